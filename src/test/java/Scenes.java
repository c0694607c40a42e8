/** Objects that tests begin with. */
final class Scenes {
    private Scenes() {
    }

    static WireRow withPegs(int... places) {
        WireRow x = new WireRow();
        for (int place : places) x.peg(place, 1);
        return x;
    }

    static WireRow withMasts(int... placesAndSides) {
        WireRow x = new WireRow();
        x.length(4000);
        putMasts(x, placesAndSides);
        return x;
    }

    static void putMasts(WireRow x, int... placesAndSides) {
        for (int i = 0; i < placesAndSides.length; i += 2) x.peg(placesAndSides[i], 1);
        for (int i = 0; i < placesAndSides.length; i += 2) x.mast(i / 2, placesAndSides[i + 1]);
    }

    /** Bends, pegs with and without masts, and all numbers other ones than at first. */
    static WireRow line() {
        WireRow x = bent();
        int[] places = {0, 250, 500, 760, 1000};
        int[] prices = {3, 5, 2, 9, 4};
        for (int i = 0; i < places.length; i++) x.peg(places[i], prices[i]);
        x.mast(0, 200);
        x.mast(2, -150);
        x.mast(4, 0);
        return x;
    }

    /** The same line before it has pegs. */
    static WireRow bent() {
        WireRow x = new WireRow();
        x.length(2000);
        x.bend(100, 300, 8);
        x.bend(300, 420, -5);
        x.bow(60, 8000, 400, 30, 520);
        x.carrier(9000, 12, 5, 150, 1300);
        return x;
    }

    /** So many bends: 0 to 10, 20 to 30, and so on; eight is all that there can be. */
    static WireRow withBends(int bends) {
        WireRow x = new WireRow();
        for (int i = 0; i < bends; i++) x.bend(20 * i, 20 * i + 10, i + 1);
        return x;
    }

    static WireRow eightBends() {
        return withBends(8);
    }

    /** All pegs that there can be, at 0, 10, 20, .. 390. */
    static WireRow fortyPegs() {
        WireRow x = new WireRow();
        for (int i = 0; i < 40; i++) x.peg(10 * i, i + 1);
        return x;
    }

    static WireRow fortyMasts() {
        WireRow x = fortyPegs();
        for (int i = 0; i < 40; i++) x.mast(i, i);
        return x;
    }

    /**
     * As little room, as much wind and as short a reach as can be: the first span is too long alone,
     * the second one is blown too far. Any number of bow() made easier changes an answer.
     */
    static WireRow tight() {
        WireRow x = withMasts(0, 0, 30, 0, 160, 0);
        x.bow(500, 1000, 100, 99, 20);
        return x;
    }

    /** What tight() and heavy() set together, without their line. */
    static void setAll(WireRow x) {
        x.bow(500, 1000, 100, 99, 20);
        x.carrier(1000, 50, 12, 2000, 500);
    }

    /** As slack, heavy and low a carrier as can be, so that any of its numbers changed is seen. */
    static WireRow heavy() {
        WireRow x = withMasts(0, 0, 100, 0, 300, 0);
        x.carrier(1000, 50, 12, 2000, 500);
        return x;
    }

    /** So many spans of one length. */
    static WireRow withSpans(int spans, int length) {
        WireRow x = new WireRow();
        x.length(4000);
        for (int i = 0; i <= spans; i++) x.peg(i * length, 1);
        for (int i = 0; i <= spans; i++) x.mast(i, 0);
        return x;
    }
}
