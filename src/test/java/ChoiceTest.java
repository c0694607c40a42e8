import java.util.ArrayList;
import java.util.List;
import java.util.Random;

/** Promises 23 to 26: the cheapest masts, bars, and what is told. */
public final class ChoiceTest {
    private static final int MIN = Integer.MIN_VALUE;
    private static final int MAX = Integer.MAX_VALUE;

    private static final Due due = new Due();
    /** How often a plain way of cutting would have taken a bar too many. */
    private static int plainCutsBeaten;

    public static void main(String[] args) {
        chooseRefused();
        chooseLeastPrice();
        choosePrefersLesserPeg();
        choosePrefersLesserSide();
        chooseTakesMastsAway();
        chooseWithNoWay();
        chooseOfManyPegs();
        price();
        barsRefused();
        barsAreFull();
        barsAtTheEdge();
        barsOfSeveralSpans();
        barsOfFourteen();
        told();
        due.end();
    }

    private static WireRow withPegs(int... placesAndPrices) {
        WireRow x = new WireRow();
        for (int i = 0; i < placesAndPrices.length; i += 2) x.peg(placesAndPrices[i], placesAndPrices[i + 1]);
        return x;
    }

    /** A side for each peg, 999 for one with no mast. */
    private static void masts(String when, WireRow x, int... sides) {
        for (int p = 0; p < sides.length; p++) {
            due.is(when + ": about(" + p + ", 2)", x.about(p, 2), sides[p] == 999 ? 0 : 1);
            due.is(when + ": about(" + p + ", 3)", x.about(p, 3), sides[p] == 999 ? 0 : sides[p]);
        }
    }

    private static void chooseRefused() {
        WireRow x = new WireRow();
        due.is("choose(0) with no peg", x.choose(0), -3);
        x.peg(5, 5);
        due.is("choose(400) with one peg", x.choose(400), -3);
        for (int s : new int[] {-1, 401, MIN, MAX}) {
            due.is("choose(" + s + ") with one peg", x.choose(s), -2);
        }
        x.peg(15, 6);
        for (int s : new int[] {-1, 401, MIN, MAX}) {
            due.is("choose(" + s + ") with two pegs", x.choose(s), -2);
        }
        due.is("told(2)", x.told(2), 0);
        due.is("choose(400) with two pegs", x.choose(400), 11);
        masts("two pegs", x, -400, -400);
    }

    private static void chooseLeastPrice() {
        WireRow x = withPegs(0, 1, 30, 1, 50, 100, 70, 1, 100, 1);
        x.bow(0, 1000, 400, 0, 50);
        due.is("choose(7)", x.choose(7), 4);
        masts("more masts are cheaper", x, -7, -7, 999, -7, -7);
        x.bow(0, 1000, 400, 0, 39);
        due.is("choose(7) with less reach", x.choose(7), 104);
        masts("all are needed", x, -7, -7, -7, -7, -7);
        x.bow(0, 1000, 400, 0, 100);
        due.is("choose(0) with all reach", x.choose(0), 2);
        masts("the ends alone", x, 0, 999, 999, 999, 0);
    }

    private static void choosePrefersLesserPeg() {
        WireRow x = withPegs(0, 5, 30, 5, 60, 5, 90, 5);
        x.bow(0, 1000, 400, 0, 60);
        due.is("choose(9)", x.choose(9), 15);
        masts("the lesser peg", x, -9, -9, 999, -9);
        WireRow y = withPegs(0, 5, 30, 2, 60, 3, 90, 5, 120, 1);
        y.bow(0, 1000, 400, 0, 90);
        due.is("choose(9) with prices", y.choose(9), 8);
        masts("the cheaper peg", y, -9, -9, 999, 999, -9);
        // one mast of 5 or two of 2 and 3: the two begin with the lesser peg
        WireRow z = withPegs(0, 1, 10, 2, 20, 3, 30, 5, 50, 1);
        z.bow(0, 1000, 400, 0, 30);
        due.is("choose(9) of two masts or one", z.choose(9), 5);
        masts("one is cheapest", z, -9, 999, -9, 999, -9);
        WireRow w = withPegs(0, 1, 10, 2, 30, 5, 40, 3, 60, 1);
        w.bow(0, 1000, 400, 0, 30);
        due.is("choose(9) of equal prices", w.choose(9), 7);
        masts("the lesser peg of one and of two masts", w, -9, -9, 999, -9, -9);
    }

    private static void choosePrefersLesserSide() {
        WireRow x = withPegs(0, 5, 30, 5, 60, 5, 90, 5, 120, 5);
        x.bow(500, 1000, 100, 99, 60);
        // two masts in a row with the same side but 0 are blown too far
        due.is("choose(1)", x.choose(1), 15);
        masts("from side to side", x, -1, 999, 0, 999, -1);
        x.bow(0, 1000, 100, 99, 60);
        due.is("choose(1) with no wind", x.choose(1), 15);
        masts("on one side", x, -1, 999, -1, 999, -1);
        due.is("choose(2)", x.choose(2), 15);
        masts("in the middle", x, 0, 999, 0, 999, 0);
        WireRow y = new WireRow();
        y.bend(0, 100, -50);
        y.peg(0, 1);
        y.peg(100, 1);
        // the wire is off by -125000 in the middle, with 118000 to be in
        y.bow(0, 1000, 100, 41, 800);
        due.is("choose(4) in a bend", y.choose(4), 2);
        masts("on the other side", y, 4, 4);
        due.is("choose(8) in a bend", y.choose(8), 2);
        masts("in the middle and on the other side", y, 0, 8);
    }

    private static void chooseTakesMastsAway() {
        WireRow x = withPegs(0, 1, 10, 1, 20, 1, 30, 1);
        x.mast(1, 300);
        x.mast(2, 300);
        due.is("choose(50)", x.choose(50), 2);
        masts("the others are gone", x, -50, 999, 999, -50);
        due.is("told(2)", x.told(2), 2);
        due.is("told(6)", x.told(6), 30);
        due.is("price()", x.price(), 2);
    }

    private static void chooseWithNoWay() {
        WireRow x = withPegs(0, 1, 10, 2, 40, 4);
        x.bow(0, 1000, 400, 0, 29);
        x.mast(1, 300);
        due.is("choose(50)", x.choose(50), -5);
        masts("they stay", x, 999, 300, 999);
        due.is("price()", x.price(), 2);
        due.is("told(2)", x.told(2), 1);
        x.bow(0, 1000, 400, 0, 30);
        due.is("choose(50) with more reach", x.choose(50), 7);
    }

    private static void chooseOfManyPegs() {
        Random chance = new Random(5);
        for (int n = 0; n < 30; n++) {
            WireRow row = new WireRow();
            PlainRow plain = new PlainRow();
            int end = 200 + chance.nextInt(400);
            for (int i = chance.nextInt(9); i > 0; i--) {
                int a = chance.nextInt(end);
                int b = a + 1 + chance.nextInt(60);
                int curve = chance.nextInt(41) - 20;
                due.is("bend", row.bend(a, b, curve), plain.bend(a, b, curve));
            }
            int dearest = 1 + chance.nextInt(6);
            for (int i = 0; i < 60; i++) {
                int x = chance.nextInt(end);
                int price = 1 + chance.nextInt(dearest);
                due.is("peg", row.peg(x, price), plain.peg(x, price));
            }
            int wind = chance.nextInt(501);
            int reach = 40 + chance.nextInt(60);
            int sway = chance.nextInt(100);
            row.bow(wind, 2000, 100, sway, reach);
            plain.bow(wind, 2000, 100, sway, reach);
            int s = 1 + chance.nextInt(100 - sway);
            due.is("choose(" + s + ") of many", row.choose(s), plain.choose(s));
            for (int p = 0; p < plain.told(1); p++) {
                due.is("choice " + n + ": about(" + p + ", 2)", row.about(p, 2), plain.about(p, 2));
                due.is("choice " + n + ": about(" + p + ", 3)", row.about(p, 3), plain.about(p, 3));
            }
        }
    }

    private static void price() {
        WireRow x = withPegs(0, 1000, 10, 20, 20, 3);
        due.is("price() with no mast", x.price(), 0);
        x.mast(0, 0);
        due.is("price() of one", x.price(), 1000);
        x.mast(2, 0);
        x.mast(2, 5);
        due.is("price() of two", x.price(), 1003);
        x.mast(1, 0);
        due.is("price() of three", x.price(), 1023);
        x.fell(0);
        due.is("price() of two others", x.price(), 23);
    }

    private static WireRow withSpans(int spans, int length) {
        WireRow x = new WireRow();
        x.length(4000);
        for (int i = 0; i <= spans; i++) x.peg(i * length, 1);
        for (int i = 0; i <= spans; i++) x.mast(i, 0);
        return x;
    }

    private static void barsRefused() {
        WireRow x = withSpans(3, 100);
        int[][] unknown = {{-1, 0}, {0, 3}, {3, 3}, {2, 1}, {1, 0}, {MIN, MAX}, {0, MAX}, {MIN, 0}, {MAX, MIN}};
        for (int[] u : unknown) {
            due.is("bars(" + u[0] + ", " + u[1] + ", 2000)", x.bars(u[0], u[1], 2000), -1);
            due.is("bars(" + u[0] + ", " + u[1] + ", 99)", x.bars(u[0], u[1], 99), -1);
        }
        for (int bar : new int[] {99, 20001, MIN, MAX}) {
            due.is("bars(0, 0, " + bar + ")", x.bars(0, 0, bar), -2);
        }
        x.carrier(10000, 10, 12, 100, 1400);
        due.is("bars(0, 1, 99) of too many", x.bars(0, 1, 99), -2);
        WireRow y = withSpans(1, 100);
        y.fell(0);
        due.is("bars(0, 0, 2000) with no span", y.bars(0, 0, 2000), -1);
    }

    private static void barsAreFull() {
        WireRow x = withSpans(15, 10);
        x.carrier(20000, 1, 1, 1, 500);
        due.is("14 of one", x.bars(0, 13, 1000), 7);
        due.is("15 of one", x.bars(0, 14, 1000), -4);
        due.is("15 of one, too long for a bar", x.bars(0, 14, 100), -4);
        x.carrier(20000, 1, 7, 1, 500);
        due.is("2 of seven", x.bars(13, 14, 1000), 7);
        due.is("3 of seven", x.bars(12, 14, 1000), -4);
        x.carrier(20000, 1, 12, 1, 500);
        due.is("1 of twelve", x.bars(14, 14, 20000), 1);
        due.is("2 of twelve", x.bars(0, 1, 20000), -4);
    }

    private static void barsAtTheEdge() {
        WireRow x = withSpans(1, 10);
        x.carrier(20000, 1, 2, 1, 500);
        due.is("cut(10, 0)", x.cut(10, 0), 500);
        due.is("both in one bar", x.bars(0, 0, 1000), 1);
        due.is("both just not in one bar", x.bars(0, 0, 999), 2);
        due.is("each a whole bar", x.bars(0, 0, 500), 2);
        due.is("each too long by one", x.bars(0, 0, 499), -5);
        WireRow y = new WireRow();
        y.carrier(1000, 8, 1, 4, 500);
        y.peg(0, 1);
        y.peg(706, 1);
        y.peg(707, 1);
        y.mast(0, 0);
        y.mast(1, 0);
        due.is("a dropper of one millimetre", y.bars(0, 0, 100), 1);
        y.fell(1);
        y.mast(2, 0);
        due.is("a dropper of none", y.bars(0, 0, 100), -5);
    }

    private static void barsOfSeveralSpans() {
        WireRow x = new WireRow();
        x.carrier(1000, 8, 1, 4, 500);
        // 500 less (l l and l) by 1000, up: 485, 498, 410, 500
        int[] places = {0, 124, 171, 471, 480};
        for (int place : places) x.peg(place, 1);
        for (int i = 0; i < places.length; i++) x.mast(i, 0);
        due.is("cut(124, 0)", x.cut(124, 0), 485);
        due.is("cut(47, 0)", x.cut(47, 0), 498);
        due.is("cut(300, 0)", x.cut(300, 0), 410);
        due.is("cut(9, 0)", x.cut(9, 0), 500);
        due.is("bars(0, 1, 983)", x.bars(0, 1, 983), 1);
        due.is("bars(0, 1, 982)", x.bars(0, 1, 982), 2);
        due.is("bars(1, 2, 908)", x.bars(1, 2, 908), 1);
        due.is("bars(1, 2, 907)", x.bars(1, 2, 907), 2);
        due.is("bars(0, 3, 983)", x.bars(0, 3, 983), 2);
        due.is("bars(0, 3, 909)", x.bars(0, 3, 909), 3);
        due.is("bars(0, 3, 1893)", x.bars(0, 3, 1893), 1);
        due.is("bars(0, 3, 1892)", x.bars(0, 3, 1892), 2);
        due.is("bars(3, 3, 500)", x.bars(3, 3, 500), 1);
        due.is("bars(0, 3, 499)", x.bars(0, 3, 499), -5);
        due.is("bars(0, 2, 499)", x.bars(0, 2, 499), 3);
    }

    private static void barsOfFourteen() {
        Random chance = new Random(9);
        for (int n = 0; n < 300; n++) {
            WireRow row = new WireRow();
            PlainRow plain = new PlainRow();
            row.length(4000);
            plain.length(4000);
            int spans = 8 + chance.nextInt(7);
            int x = 0;
            List<Integer> pieces = new ArrayList<>();
            int load = 1 + chance.nextInt(300);
            due.is("carrier", row.carrier(1000, 16, 1, load, 700), plain.carrier(1000, 16, 1, load, 700));
            due.is("peg", row.peg(0, 1), plain.peg(0, 1));
            for (int i = 1; i <= spans; i++) {
                int length = 1 + chance.nextInt(280);
                x += length;
                pieces.add(row.cut(length, 0));
                due.is("peg", row.peg(x, 1), plain.peg(x, 1));
            }
            for (int i = 0; i <= spans; i++) due.is("mast", row.mast(i, 0), plain.mast(i, 0));
            int bar = 700 + chance.nextInt(1500);
            int fewest = plain.bars(0, spans - 1, bar);
            due.is("bars(0, " + (spans - 1) + ", " + bar + ")", row.bars(0, spans - 1, bar), fewest);
            if (fewest > 0 && longestFirst(pieces, bar) > fewest) plainCutsBeaten++;
        }
        due.isTrue("some cuts were hard", plainCutsBeaten > 0);
    }

    /** How many bars, if the longest are cut first, each from the first bar that has enough. */
    private static int longestFirst(List<Integer> pieces, int bar) {
        List<Integer> sorted = new ArrayList<>(pieces);
        sorted.sort((a, b) -> b - a);
        int[] used = new int[sorted.size()];
        int bars = 0;
        for (int piece : sorted) {
            int k = 0;
            while (used[k] + piece > bar) k++;
            used[k] += piece;
            bars = Math.max(bars, k + 1);
        }
        return bars;
    }

    private static void told() {
        WireRow x = new WireRow();
        x.length(2000);
        x.bend(0, 10, 1);
        x.bend(10, 20, 1);
        for (int place : new int[] {100, 150, 400, 1999}) x.peg(place, 1);
        x.carrier(10000, 10, 9, 100, 1400);
        x.mast(1, 0);
        int[] one = {2, 4, 1, 0, 9, 2000, 0};
        x.mast(3, 0);
        int[] two = {2, 4, 2, 1, 9, 2000, 1849};
        for (int what = 0; what < 7; what++) due.is("told(" + what + ")", x.told(what), two[what]);
        x.fell(3);
        for (int what = 0; what < 7; what++) due.is("told(" + what + ")", x.told(what), one[what]);
        x.mast(0, 0);
        x.mast(2, 0);
        int[] three = {2, 4, 3, 2, 9, 2000, 300};
        for (int what = 0; what < 7; what++) due.is("told(" + what + ")", x.told(what), three[what]);
        for (int what : new int[] {-1, 7, MIN, MAX}) due.is("told(" + what + ")", x.told(what), -2);
    }
}
