import java.util.function.Supplier;

/**
 * "Calls that are refused answer, the first of these that fits: UNKNOWN, OUTSIDE, STATE, FULL, NO."
 * For each call all pairs of refusals that can fit together; and none of them changes anything.
 */
public final class OrderTest {
    private static final int UNKNOWN = -1, OUTSIDE = -2, STATE = -3, FULL = -4;
    private static final long LOST_UNKNOWN = -1000000000000001L;
    private static final int CUT_UNKNOWN = -1000001;

    private static final Due due = new Due();
    private static final Twins twins = new Twins(due);

    public static void main(String[] args) {
        length();
        bendOutside();
        bendStateOrFull();
        pegOutside();
        pegStateOrFull();
        mast();
        fell();
        about();
        off();
        waysUnknown();
        waysOutside();
        droppers();
        choose();
        barsUnknown();
        barsOutsideOrFull();
        due.end();
    }

    private static void refused(String call, Supplier<WireRow> scene, Twins.Call made, long refusal) {
        twins.refused(call, scene, made, refusal);
    }

    private static void length() {
        due.by("2: OUTSIDE before STATE");
        refused("length(99) with pegs", Scenes::line, x -> x.length(99), OUTSIDE);
        refused("length(4001) with pegs", Scenes::line, x -> x.length(4001), OUTSIDE);
        refused("length(4000) with pegs", Scenes::line, x -> x.length(4000), STATE);
    }

    private static WireRow eightBendsAndAPeg() {
        WireRow x = Scenes.eightBends();
        x.peg(500, 1);
        return x;
    }

    private static void bendOutside() {
        due.by("3: OUTSIDE before STATE, FULL, NO");
        refused("curve, with pegs", Scenes::line, x -> x.bend(500, 600, 51), OUTSIDE);
        refused("places, with pegs", Scenes::line, x -> x.bend(600, 600, 5), OUTSIDE);
        refused("curve, with pegs, over another", Scenes::line, x -> x.bend(100, 300, -51), OUTSIDE);
        refused("curve, with eight", Scenes::eightBends, x -> x.bend(500, 600, -51), OUTSIDE);
        refused("places, with eight", Scenes::eightBends, x -> x.bend(500, 1001, 5), OUTSIDE);
        refused("curve, over another", Scenes::bent, x -> x.bend(100, 300, 51), OUTSIDE);
        refused("places, over another", Scenes::bent, x -> x.bend(100, 2001, 5), OUTSIDE);
        refused("places, over another, from ahead of the line", Scenes::bent, x -> x.bend(-1, 200, 5), OUTSIDE);
        refused("all of them", OrderTest::eightBendsAndAPeg, x -> x.bend(0, 10, 51), OUTSIDE);
    }

    private static void bendStateOrFull() {
        due.by("3: STATE before FULL, NO");
        refused("with eight and a peg", OrderTest::eightBendsAndAPeg, x -> x.bend(500, 600, 5), STATE);
        refused("with pegs, over another", Scenes::line, x -> x.bend(100, 300, 5), STATE);
        refused("with eight and a peg, over another", OrderTest::eightBendsAndAPeg, x -> x.bend(0, 10, 5), STATE);
        due.by("3: FULL before NO");
        refused("with eight, over another", Scenes::eightBends, x -> x.bend(0, 10, 5), FULL);
        refused("with eight, over all", Scenes::eightBends, x -> x.bend(0, 1000, 5), FULL);
    }

    private static void pegOutside() {
        due.by("5: OUTSIDE before STATE, FULL, NO");
        refused("place, with masts", Scenes::line, x -> x.peg(2001, 1), OUTSIDE);
        refused("price, with masts", Scenes::line, x -> x.peg(100, 0), OUTSIDE);
        refused("price, with masts, where there is one", Scenes::line, x -> x.peg(250, 1001), OUTSIDE);
        refused("place, with forty", Scenes::fortyPegs, x -> x.peg(-1, 1), OUTSIDE);
        refused("price, with forty", Scenes::fortyPegs, x -> x.peg(5, 1001), OUTSIDE);
        refused("price, where there is one", () -> Scenes.withPegs(7), x -> x.peg(7, 0), OUTSIDE);
        refused("all of them", Scenes::fortyMasts, x -> x.peg(10, 0), OUTSIDE);
    }

    private static void pegStateOrFull() {
        due.by("5: STATE before FULL, NO");
        refused("with forty masts", Scenes::fortyMasts, x -> x.peg(5, 1), STATE);
        refused("with masts, where there is one", Scenes::line, x -> x.peg(250, 1), STATE);
        refused("with forty masts, where there is one", Scenes::fortyMasts, x -> x.peg(10, 1), STATE);
        due.by("5: FULL before NO");
        refused("with forty, where there is one", Scenes::fortyPegs, x -> x.peg(10, 1), FULL);
    }

    private static void mast() {
        due.by("6: UNKNOWN before OUTSIDE");
        refused("mast(5, 401)", Scenes::line, x -> x.mast(5, 401), UNKNOWN);
        refused("mast(-1, -401)", Scenes::line, x -> x.mast(-1, -401), UNKNOWN);
        refused("mast(0, 401) with no peg", WireRow::new, x -> x.mast(0, 401), UNKNOWN);
    }

    private static void fell() {
        due.by("7: UNKNOWN before STATE");
        refused("fell(5), where no peg and no mast is", Scenes::line, x -> x.fell(5), UNKNOWN);
        refused("fell(-1)", Scenes::line, x -> x.fell(-1), UNKNOWN);
        refused("fell(0) with nothing", WireRow::new, x -> x.fell(0), UNKNOWN);
    }

    private static void about() {
        due.by("9: UNKNOWN before OUTSIDE");
        refused("about(5, 4)", Scenes::line, x -> x.about(5, 4), UNKNOWN);
        refused("about(-1, -1)", Scenes::line, x -> x.about(-1, -1), UNKNOWN);
        refused("about(0, 4) with no peg", WireRow::new, x -> x.about(0, 4), UNKNOWN);
    }

    private static void off() {
        due.by("11: UNKNOWN before OUTSIDE");
        refused("off(1001, 2)", Scenes::line, x -> x.off(1001, 2), LOST_UNKNOWN);
        refused("off(-1, -1)", Scenes::line, x -> x.off(-1, -1), LOST_UNKNOWN);
        refused("off(0, 2) with no span", WireRow::new, x -> x.off(0, 2), LOST_UNKNOWN);
    }

    private static void waysUnknown() {
        due.by("15: UNKNOWN before OUTSIDE, NO");
        refused("ways(5, 1, 401)", Scenes::line, x -> x.ways(5, 1, 401), UNKNOWN);
        refused("ways(0, 5, -1)", Scenes::line, x -> x.ways(0, 5, -1), UNKNOWN);
        refused("ways(5, 1, 50), behind it", Scenes::line, x -> x.ways(5, 1, 50), UNKNOWN);
        refused("ways(1, -1, 50), behind it", Scenes::line, x -> x.ways(1, -1, 50), UNKNOWN);
        refused("ways(5, 5, 50), the same", Scenes::line, x -> x.ways(5, 5, 50), UNKNOWN);
        refused("ways(5, -1, 401), all of them", Scenes::line, x -> x.ways(5, -1, 401), UNKNOWN);
    }

    private static void waysOutside() {
        due.by("15: OUTSIDE before NO");
        refused("ways(1, 1, 401)", Scenes::line, x -> x.ways(1, 1, 401), OUTSIDE);
        refused("ways(2, 1, -1)", Scenes::line, x -> x.ways(2, 1, -1), OUTSIDE);
    }

    private static void droppers() {
        due.by("17 to 19: UNKNOWN before OUTSIDE");
        refused("sag(0, 5, 0)", Scenes::line, x -> x.sag(0, 5, 0), LOST_UNKNOWN);
        refused("sag(801, -1, 0)", Scenes::line, x -> x.sag(801, -1, 0), LOST_UNKNOWN);
        refused("sag(100, 5, 2)", Scenes::line, x -> x.sag(100, 5, 2), LOST_UNKNOWN);
        refused("sag(0, -1, -1)", Scenes::line, x -> x.sag(0, -1, -1), LOST_UNKNOWN);
        refused("dropper(801, 5, 0)", Scenes::line, x -> x.dropper(801, 5, 0), LOST_UNKNOWN);
        refused("dropper(0, -1, 0)", Scenes::line, x -> x.dropper(0, -1, 0), LOST_UNKNOWN);
        refused("dropper(100, 5, -1)", Scenes::line, x -> x.dropper(100, 5, -1), LOST_UNKNOWN);
        refused("dropper(801, 5, 2)", Scenes::line, x -> x.dropper(801, 5, 2), LOST_UNKNOWN);
        refused("cut(0, 5)", Scenes::line, x -> x.cut(0, 5), CUT_UNKNOWN);
        refused("cut(801, -1)", Scenes::line, x -> x.cut(801, -1), CUT_UNKNOWN);
    }

    private static void choose() {
        due.by("23: OUTSIDE before STATE, NO");
        refused("choose(401) of nothing", WireRow::new, x -> x.choose(401), OUTSIDE);
        refused("choose(-1) of one peg", () -> Scenes.withPegs(7), x -> x.choose(-1), OUTSIDE);
        refused("choose(401) with no choice", Scenes::tight, x -> x.choose(401), OUTSIDE);
        refused("choose(-1) with no choice", Scenes::tight, x -> x.choose(-1), OUTSIDE);
    }

    /** Spans 0 and 1 with twelve droppers each, some of which are below 1. */
    private static void barsUnknown() {
        due.by("25: UNKNOWN before OUTSIDE, FULL, NO");
        refused("bars(0, 2, 99)", Scenes::heavy, x -> x.bars(0, 2, 99), UNKNOWN);
        refused("bars(1, 0, 20001)", Scenes::heavy, x -> x.bars(1, 0, 20001), UNKNOWN);
        refused("bars(-1, 1, 3000) of too many", Scenes::heavy, x -> x.bars(-1, 1, 3000), UNKNOWN);
        refused("bars(0, 2, 3000) of too many", Scenes::heavy, x -> x.bars(0, 2, 3000), UNKNOWN);
        refused("bars(0, 1, 3000) of no span, too many", () -> {
            WireRow x = new WireRow();
            x.carrier(1000, 50, 12, 2000, 500);
            return x;
        }, x -> x.bars(0, 1, 3000), UNKNOWN);
        refused("bars(2, 2, 100), too long", Scenes::line, x -> x.bars(2, 2, 100), UNKNOWN);
        refused("bars(1, 0, 100), too long", Scenes::line, x -> x.bars(1, 0, 100), UNKNOWN);
    }

    private static void barsOutsideOrFull() {
        due.by("25: OUTSIDE before FULL, NO");
        refused("bars(0, 1, 99) of too many", Scenes::heavy, x -> x.bars(0, 1, 99), OUTSIDE);
        refused("bars(0, 1, 20001) of too many", Scenes::heavy, x -> x.bars(0, 1, 20001), OUTSIDE);
        refused("bars(1, 1, 20001), below 1", Scenes::heavy, x -> x.bars(1, 1, 20001), OUTSIDE);
        refused("bars(0, 0, 99), too long", Scenes::line, x -> x.bars(0, 0, 99), OUTSIDE);
        due.by("25: FULL before NO");
        refused("bars(0, 1, 20000) of too many, below 1", Scenes::heavy, x -> x.bars(0, 1, 20000), FULL);
        refused("bars(0, 1, 100) of too many, too long", () -> {
            WireRow x = Scenes.withSpans(2, 10);
            x.carrier(20000, 1, 8, 1, 500);
            return x;
        }, x -> x.bars(0, 1, 100), FULL);
        due.is("bars(1, 1, 20000), below 1", Scenes.heavy().bars(1, 1, 20000), -5);
        due.is("bars(0, 0, 100), too long", Scenes.line().bars(0, 0, 100), -5);
    }
}
