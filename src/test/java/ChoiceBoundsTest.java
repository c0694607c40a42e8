import java.util.function.Supplier;

/** Each sentence of the document that names a bound or an edge, for promises 23 to 26. */
public final class ChoiceBoundsTest {
    private static final int UNKNOWN = -1, OUTSIDE = -2, STATE = -3, FULL = -4, NO = -5;
    /** In place of a side: no mast. */
    private static final int BARE = 999;

    private static final Due due = new Due();
    private static final Twins twins = new Twins(due);

    public static void main(String[] args) {
        chooseSide();
        chooseWithFewPegs();
        chooseOfTwoPegs();
        chooseNoneIsThere();
        chooseNoneInTheWind();
        chooseFirstAndLastPeg();
        chooseWithMasts();
        chooseLeastPrice();
        chooseLesserPeg();
        chooseLesserSide();
        choosePegBeforeSide();
        chooseFromTheBeginning();
        chooseOfForty();
        priceOfNoneAndAll();
        barsOfTheseSpans();
        barsLength();
        barsOfFourteenDroppers();
        barsJustLongEnough();
        barsBelowOne();
        barsEachWholeFromOneBar();
        barsAtTheirMost();
        toldWhat();
        toldOfNoneAndAll();
        toldDecimetres();
        due.end();
    }

    private static WireRow withPrices(int... placesAndPrices) {
        WireRow x = new WireRow();
        for (int i = 0; i < placesAndPrices.length; i += 2) x.peg(placesAndPrices[i], placesAndPrices[i + 1]);
        return x;
    }

    private static void masts(String when, WireRow x, int... sides) {
        for (int p = 0; p < sides.length; p++) {
            due.is(when + ": about(" + p + ", 2)", x.about(p, 2), sides[p] == BARE ? 0 : 1);
            due.is(when + ": about(" + p + ", 3)", x.about(p, 3), sides[p] == BARE ? 0 : sides[p]);
        }
    }

    /** Whether all spans would be kept with masts so. */
    private static boolean isChoice(WireRow x, int... sides) {
        for (int p = 0; p < sides.length; p++) {
            if (sides[p] != BARE) x.mast(p, sides[p]);
        }
        for (int i = 0; i < x.told(3); i++) {
            if (x.spanKept(i) != 1) return false;
        }
        return true;
    }

    private static void chooseSide() {
        due.by("23: OUTSIDE: s (0 to 400)");
        twins.bounds("choose() of three pegs", () -> Scenes.withPegs(0, 20, 50), WireRow::choose,
            new int[] {0, 400}, new long[] {2, 2}, OUTSIDE);
        twins.beyond("choose() with masts", Scenes::line, WireRow::choose, 0, 400, OUTSIDE);
        for (int s : new int[] {0, 400}) {
            WireRow x = Scenes.withPegs(0, 20, 50);
            x.choose(s);
            masts("choose(" + s + ")", x, -s, BARE, -s);
        }
    }

    private static void chooseWithFewPegs() {
        due.by("23: STATE: there are less than two PEGS");
        for (int s : new int[] {0, 400}) {
            twins.refused("choose(" + s + ") of no peg", WireRow::new, x -> x.choose(s), STATE);
            twins.refused("choose(" + s + ") of one peg", () -> Scenes.withPegs(7), x -> x.choose(s), STATE);
            twins.refused("choose(" + s + ") of one mast", () -> Scenes.withMasts(7, 5), x -> x.choose(s), STATE);
        }
        WireRow x = Scenes.fortyPegs();
        x.clear();
        due.is("choose(5) when cleared", x.choose(5), STATE);
        WireRow y = Scenes.tight();
        due.is("choose(5) of spans blown too far", y.choose(5), NO);
        y.clear();
        due.is("choose(5) when they are cleared", y.choose(5), STATE);
        y.peg(7, 1);
        due.is("choose(5) with one new peg", y.choose(5), STATE);
    }

    private static void chooseOfTwoPegs() {
        due.by("23: the price; MASTS stand so then");
        WireRow x = withPrices(3, 1000, 4, 1);
        due.is("choose(5) of two", x.choose(5), 1001);
        masts("two", x, -5, -5);
        due.is("price()", x.price(), 1001);
        due.is("told(2)", x.told(2), 2);
        due.is("told(3)", x.told(3), 1);
    }

    private static void chooseNoneIsThere() {
        due.by("23: NO: there is no such choice (MASTS stay)");
        Supplier<WireRow> scene = () -> {
            WireRow x = withPrices(0, 1, 10, 2, 40, 4);
            x.bow(0, 1000, 400, 0, 29);
            x.mast(1, 300);
            x.mast(2, -7);
            return x;
        };
        twins.refused("choose(50) with REACH 29", scene, x -> x.choose(50), NO);
        twins.refused("choose(0) with REACH 29", scene, x -> x.choose(0), NO);
        WireRow x = scene.get();
        due.is("choose(50) with REACH 29", x.choose(50), NO);
        masts("they stay", x, BARE, 300, -7);
        due.is("price()", x.price(), 6);
        x.bow(0, 1000, 400, 0, 30);
        due.is("choose(50) with REACH 30", x.choose(50), 7);
        masts("all three", x, -50, -50, -50);
    }

    private static void chooseNoneInTheWind() {
        due.by("23: so that all SPANS are KEPT");
        // blown by half of 65 x 65 amid, of 2000: from one side to the other or not
        WireRow x = Scenes.withPegs(0, 130, 160);
        x.bow(500, 1056, 100, 99, 800);
        due.is("choose(0), too far at one place", x.choose(0), NO);
        due.is("choose(1), too far at one place", x.choose(1), NO);
        due.is("told(2)", x.told(2), 0);
        x.bow(500, 1057, 100, 99, 130);
        due.is("choose(0) with a little more PULL", x.choose(0), 3);
        x.bow(500, 1057, 100, 99, 129);
        due.is("choose(0) with a little less REACH", x.choose(0), NO);
        masts("they stay", x, 0, 0, 0);
        twins.refused("choose(0) of spans blown too far", Scenes::tight, y -> y.choose(0), NO);
    }

    private static void chooseFirstAndLastPeg() {
        due.by("Terms: MASTS at the first PEG, at the last one");
        WireRow x = withPrices(500, 1000, 501, 1, 502, 1, 503, 1000);
        due.is("choose(1), the dearest ends", x.choose(1), 2000);
        masts("the ends", x, -1, BARE, BARE, -1);
    }

    private static void chooseWithMasts() {
        due.by("23: MASTS stand so then, others do not");
        WireRow x = Scenes.fortyMasts();
        due.is("choose(9)", x.choose(9), 41);
        due.is("told(2)", x.told(2), 2);
        due.is("about(20, 2)", x.about(20, 2), 0);
        due.is("about(20, 3)", x.about(20, 3), 0);
        due.is("peg(5, 1)", x.peg(5, 1), STATE);
        due.is("choose(8) again", x.choose(8), 41);
        due.is("about(39, 3)", x.about(39, 3), -8);
    }

    private static void chooseLeastPrice() {
        due.by("Terms: with the least price of all MASTS");
        WireRow x = withPrices(0, 1, 30, 1, 50, 3, 70, 1, 100, 1);
        x.bow(0, 1000, 400, 0, 50);
        due.is("choose(7), three of 1 are less than 3", x.choose(7), 4);
        masts("more masts", x, -7, -7, BARE, -7, -7);
        WireRow y = withPrices(0, 1, 30, 2, 50, 2, 70, 1, 100, 1);
        y.bow(0, 1000, 400, 0, 50);
        due.is("choose(7), one of 2 is less than 2 and 1", y.choose(7), 4);
        masts("one mast", y, -7, BARE, -7, BARE, -7);
        WireRow z = withPrices(0, 1, 30, 1, 50, 2, 70, 1, 100, 1);
        z.bow(0, 1000, 400, 0, 50);
        due.is("choose(7), of the same price", z.choose(7), 4);
        masts("the lesser peg", z, -7, -7, BARE, -7, -7);
    }

    private static void chooseLesserPeg() {
        due.by("Terms: has the lesser PEG");
        WireRow x = withPrices(0, 5, 30, 5, 60, 5, 90, 5);
        x.bow(0, 1000, 400, 0, 60);
        due.is("choose(9)", x.choose(9), 15);
        masts("the lesser peg", x, -9, -9, BARE, -9);
        x.bow(0, 1000, 400, 0, 59);
        due.is("choose(9) with less REACH", x.choose(9), 20);
        masts("all pegs", x, -9, -9, -9, -9);
    }

    private static void chooseLesserSide() {
        due.by("Terms: then the lesser SIDE");
        WireRow x = Scenes.withPegs(0, 60);
        x.bow(0, 1000, 100, 99, 60);
        due.is("choose(1)", x.choose(1), 2);
        masts("-s before 0", x, -1, -1);
        due.is("choose(2), too far out", x.choose(2), 2);
        masts("0, where -s can't be", x, 0, 0);
        due.is("choose(1) again", x.choose(1), 2);
        masts("-s before 0, though 0 was chosen", x, -1, -1);
        WireRow y = new WireRow();
        y.bend(0, 100, -50);
        for (int place : new int[] {0, 50, 100}) y.peg(place, 1);
        // off by -125000 amid, of 118000
        y.bow(0, 1000, 100, 41, 800);
        due.is("choose(4)", y.choose(4), 2);
        masts("s, where the others can't be", y, 4, BARE, 4);
    }

    private static void choosePegBeforeSide() {
        due.by("Terms: the lesser PEG, then the lesser SIDE");
        Supplier<WireRow> scene = () -> {
            WireRow x = new WireRow();
            x.bend(50, 90, -7);
            for (int place : new int[] {0, 50, 70, 110}) x.peg(place, 1);
            x.bow(0, 1000, 100, 98, 80);
            return x;
        };
        due.isTrue("the greater peg could have the lesser side", isChoice(scene.get(), -1, BARE, 0, -1));
        for (int last = -1; last <= 1; last++) {
            due.isTrue("not so the lesser peg", !isChoice(scene.get(), -1, -1, BARE, last));
            due.isTrue("nor with 0", !isChoice(scene.get(), -1, 0, BARE, last));
        }
        WireRow x = scene.get();
        due.is("choose(1)", x.choose(1), 3);
        masts("the lesser peg with the greater side", x, -1, 1, BARE, 0);
    }

    private static void chooseFromTheBeginning() {
        due.by("Terms: first MAST, at which two choices differ (from the line's beginning on)");
        Supplier<WireRow> scene = () -> {
            WireRow x = Scenes.withPegs(0, 30, 60, 70);
            x.bow(200, 1000, 100, 98, 80);
            return x;
        };
        due.isTrue("both on one side are blown too far", !isChoice(scene.get(), -2, BARE, BARE, -2));
        due.isTrue("the last mast could have the lesser side", isChoice(scene.get(), 0, BARE, BARE, -2));
        WireRow x = scene.get();
        due.is("choose(2)", x.choose(2), 2);
        masts("the first mast has it", x, -2, BARE, BARE, 0);
    }

    private static void chooseOfForty() {
        due.by("23: of PEGS, 40 at most");
        WireRow x = new WireRow();
        x.length(4000);
        for (int i = 0; i < 40; i++) x.peg(100 * i, 1000);
        x.bow(0, 1000, 400, 0, 100);
        due.is("choose(400), all forty", x.choose(400), 40000);
        due.is("told(2)", x.told(2), 40);
        due.is("price()", x.price(), 40000);
        x.bow(0, 1000, 400, 0, 200);
        due.is("choose(400), each second one and both ends", x.choose(400), 21000);
        due.is("about(1, 2), the lesser peg", x.about(1, 2), 1);
        due.is("about(2, 2)", x.about(2, 2), 0);
        x.bow(0, 1000, 400, 0, 99);
        due.is("choose(400), none", x.choose(400), NO);
        due.is("told(2)", x.told(2), 21);
        x.clear();
        for (int i = 0; i < 3; i++) x.peg(99 * i, 1);
        due.is("choose(400) of three where forty were", x.choose(400), 3);
        masts("three", x, -400, -400, -400);
        due.is("told(2) of three", x.told(2), 3);
    }

    private static void priceOfNoneAndAll() {
        due.by("24: the price of all MASTS");
        due.is("price() of nothing", new WireRow().price(), 0);
        due.is("price() of pegs alone", Scenes.fortyPegs().price(), 0);
        due.is("price() of three of five", Scenes.line().price(), 9);
        WireRow x = Scenes.fortyMasts();
        due.is("price() of forty", x.price(), 820);
        x.fell(39);
        due.is("price() without the dearest", x.price(), 780);
        x.clear();
        due.is("price() when cleared", x.price(), 0);
    }

    private static WireRow threeSpans() {
        return Scenes.withSpans(3, 100);
    }

    private static void barsOfTheseSpans() {
        due.by("25: UNKNOWN: these SPANS, the second one being ahead of the first one");
        twins.bounds("bars(first, 2, 20000)", ChoiceBoundsTest::threeSpans, (x, n) -> x.bars(n, 2, 20000),
            new int[] {0, 1, 2}, new long[] {1, 1, 1}, UNKNOWN);
        twins.bounds("bars(0, last, 20000)", ChoiceBoundsTest::threeSpans, (x, n) -> x.bars(0, n, 20000),
            new int[] {0, 1, 2}, new long[] {1, 1, 1}, UNKNOWN);
        twins.bounds("bars(1, last, 20000)", ChoiceBoundsTest::threeSpans, (x, n) -> x.bars(1, n, 20000),
            new int[] {1, 2}, new long[] {1, 1}, UNKNOWN);
        twins.refused("bars(3, 3, 20000)", ChoiceBoundsTest::threeSpans, x -> x.bars(3, 3, 20000), UNKNOWN);
        twins.refused("bars(-1, -1, 20000)", ChoiceBoundsTest::threeSpans, x -> x.bars(-1, -1, 20000), UNKNOWN);
        twins.refused("bars(MIN, MAX, 20000)", ChoiceBoundsTest::threeSpans,
            x -> x.bars(Integer.MIN_VALUE, Integer.MAX_VALUE, 20000), UNKNOWN);
        twins.refused("bars(MAX, MIN, 20000)", ChoiceBoundsTest::threeSpans,
            x -> x.bars(Integer.MAX_VALUE, Integer.MIN_VALUE, 20000), UNKNOWN);
        twins.refused("bars(0, 0, 20000) of nothing", WireRow::new, x -> x.bars(0, 0, 20000), UNKNOWN);
        twins.refused("bars(0, 0, 20000) of one mast", () -> Scenes.withMasts(7, 0), x -> x.bars(0, 0, 20000), UNKNOWN);
        due.is("bars(38, 38, 20000) of 39", Scenes.fortyMasts().bars(38, 38, 20000), 1);
        due.is("bars(39, 39, 20000) of 39", Scenes.fortyMasts().bars(39, 39, 20000), UNKNOWN);
    }

    /** A dropper of just 100: 500 less (500 x 500 and 500 x 300) by 1000. */
    private static WireRow dropperOf100() {
        WireRow x = Scenes.withMasts(0, 0, 500, 0);
        x.carrier(1000, 8, 1, 1200, 500);
        return x;
    }

    private static void barsLength() {
        due.by("25: a length (100 to 20000): OUTSIDE");
        due.is("cut(500, 0)", dropperOf100().cut(500, 0), 100);
        twins.bounds("bars(0, 0, length)", ChoiceBoundsTest::dropperOf100, (x, n) -> x.bars(0, 0, n),
            new int[] {100, 101, 20000}, new long[] {1, 1, 1}, OUTSIDE);
    }

    private static int bars(int spans, int droppers) {
        WireRow x = Scenes.withSpans(spans, 10);
        due.is("carrier()", x.carrier(20000, 1, droppers, 1, 500), 1);
        return x.bars(0, spans - 1, 1000);
    }

    private static void barsOfFourteenDroppers() {
        due.by("25: FULL: more than 14 DROPPERS");
        due.is("14 spans of 1", bars(14, 1), 7);
        due.is("15 spans of 1", bars(15, 1), FULL);
        due.is("7 spans of 2", bars(7, 2), 7);
        due.is("8 spans of 2", bars(8, 2), FULL);
        due.is("2 spans of 7", bars(2, 7), 7);
        due.is("3 spans of 5", bars(3, 5), FULL);
        due.is("1 span of 12", bars(1, 12), 6);
        due.is("2 spans of 8", bars(2, 8), FULL);
        due.is("39 spans of 12", bars(39, 12), FULL);
        due.is("13 spans of 1", bars(13, 1), 7);
        Supplier<WireRow> scene = () -> {
            WireRow x = Scenes.withSpans(15, 10);
            x.carrier(20000, 1, 1, 1, 500);
            return x;
        };
        due.is("the last 14 of 15", scene.get().bars(1, 14, 1000), 7);
        twins.refused("all 15", scene, x -> x.bars(0, 14, 1000), FULL);
    }

    private static void barsJustLongEnough() {
        due.by("25: NO: one, cut up, is longer than a BAR");
        Supplier<WireRow> scene = () -> {
            WireRow x = Scenes.withMasts(0, 0, 124, 0, 171, 0, 471, 0);
            x.carrier(1000, 8, 1, 4, 500);
            return x;
        };
        // 484.5, 497.744, 409.7
        int[][] cuts = {{124, 485}, {47, 498}, {300, 410}};
        for (int[] c : cuts) due.is("cut(" + c[0] + ", 0)", scene.get().cut(c[0], 0), c[1]);
        due.is("bars(0, 0, 485)", scene.get().bars(0, 0, 485), 1);
        twins.refused("bars(0, 0, 484)", scene, x -> x.bars(0, 0, 484), NO);
        due.is("bars(0, 2, 498)", scene.get().bars(0, 2, 498), 3);
        twins.refused("bars(0, 2, 497), the second one is longer", scene, x -> x.bars(0, 2, 497), NO);
        due.is("bars(2, 2, 410)", scene.get().bars(2, 2, 410), 1);
        twins.refused("bars(2, 2, 409)", scene, x -> x.bars(2, 2, 409), NO);
    }

    private static WireRow oneSpan(int length, int load) {
        WireRow x = Scenes.withMasts(0, 0, 9, 0, 9 + length, 0);
        x.carrier(1000, 8, 1, load, 500);
        return x;
    }

    private static void barsBelowOne() {
        due.by("25: NO: one, cut up, is .. below 1");
        due.is("one of 0.858", oneSpan(706, 4).bars(1, 1, 100), 1);
        due.is("one of 1.499", oneSpan(499, 2000).bars(1, 1, 100), 1);
        twins.refused("one of 0", () -> oneSpan(500, 2000), x -> x.bars(1, 1, 20000), NO);
        twins.refused("one of -0.556", () -> oneSpan(707, 4), x -> x.bars(1, 1, 20000), NO);
        twins.refused("one of -1.501", () -> oneSpan(501, 2000), x -> x.bars(1, 1, 20000), NO);
        twins.refused("one of two is 0", () -> oneSpan(500, 2000), x -> x.bars(0, 1, 20000), NO);
        due.is("the other one alone", oneSpan(500, 2000).bars(0, 0, 20000), 1);
        twins.refused("one far below, in a span of 3991", () -> oneSpan(3991, 2000), x -> x.bars(0, 1, 20000), NO);
    }

    private static void barsEachWholeFromOneBar() {
        due.by("25: as few as can be, each whole from one BAR");
        WireRow x = Scenes.withMasts(0, 0, 124, 0, 171, 0, 471, 0, 480, 0);
        x.carrier(1000, 8, 1, 4, 500);
        // 485, 498, 410, 500
        due.is("two just in one", x.bars(0, 1, 983), 1);
        due.is("two just not in one", x.bars(0, 1, 982), 2);
        due.is("485 and 498, 410 and 500", x.bars(0, 3, 983), 2);
        due.is("410 and 485, the others alone", x.bars(0, 3, 909), 3);
        due.is("410 and 485, just", x.bars(0, 3, 895), 3);
        due.is("none with another", x.bars(0, 3, 894), 4);
        due.is("all just in one", x.bars(0, 3, 1893), 1);
        due.is("all just not in one", x.bars(0, 3, 1892), 2);
    }

    private static void barsAtTheirMost() {
        due.by("25: the fewest");
        WireRow x = Scenes.withSpans(14, 10);
        x.carrier(20000, 1, 1, 1, 3000);
        due.is("cut(10, 0)", x.cut(10, 0), 3000);
        due.is("14 of 3000 from 20000, six from each", x.bars(0, 13, 20000), 3);
        due.is("14 of 3000 from 3000", x.bars(0, 13, 3000), 14);
        due.is("14 of 3000 from 5999", x.bars(0, 13, 5999), 14);
        due.is("14 of 3000 from 6000", x.bars(0, 13, 6000), 7);
        x.carrier(20000, 1, 1, 1, 1428);
        due.is("14 of 1428 from 19992", x.bars(0, 13, 19992), 1);
        due.is("14 of 1428 from 19991", x.bars(0, 13, 19991), 2);
    }

    private static void toldWhat() {
        due.by("26: OUTSIDE");
        twins.bounds("told()", Scenes::line, WireRow::told,
            new int[] {0, 1, 2, 3, 4, 5, 6}, new long[] {2, 5, 3, 2, 5, 2000, 1000}, OUTSIDE);
    }

    private static void told(String when, WireRow x, int... want) {
        for (int what = 0; what < want.length; what++) {
            due.is(when + ": told(" + what + ")", x.told(what), want[what]);
        }
    }

    private static void toldOfNoneAndAll() {
        due.by("26: how many");
        told("nothing", new WireRow(), 0, 0, 0, 0, 4, 1000, 0);
        told("eight bends", Scenes.eightBends(), 8, 0, 0, 0, 4, 1000, 0);
        told("forty pegs", Scenes.fortyPegs(), 0, 40, 0, 0, 4, 1000, 0);
        told("forty masts", Scenes.fortyMasts(), 0, 40, 40, 39, 4, 1000, 390);
        told("one mast", Scenes.withMasts(4000, 0), 0, 1, 1, 0, 4, 4000, 0);
    }

    private static void toldDecimetres() {
        due.by("26: 6 decimetres in SPANS");
        due.is("of all the longest line", Scenes.withMasts(0, 0, 4000, 0).told(6), 4000);
        due.is("of one decimetre", Scenes.withMasts(3999, 0, 4000, 0).told(6), 1);
        WireRow x = Scenes.line();
        due.is("fell(2), amid", x.fell(2), 2);
        due.is("one span of all", x.told(6), 1000);
        due.is("fell(4)", x.fell(4), 1);
        due.is("one mast", x.told(6), 0);
        x.mast(1, 0);
        due.is("to the second peg", x.told(6), 250);
    }
}
