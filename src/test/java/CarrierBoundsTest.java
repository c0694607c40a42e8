/** Each sentence of the document that names a bound or an edge, for promises 16 to 22. */
public final class CarrierBoundsTest {
    private static final int NONE = -6, OUTSIDE = -2;
    private static final long LOST_UNKNOWN = -1000000000000001L;
    private static final long LOST_OUTSIDE = -1000000000000002L;
    private static final int CUT_UNKNOWN = -1000001;
    private static final int CUT_OUTSIDE = -1000002;

    private static final Due due = new Due();
    private static final Twins twins = new Twins(due);

    public static void main(String[] args) {
        carriersNumbers();
        carrierAndBowAreApart();
        tensionAtItsEnds();
        ownAtItsEnds();
        droppersAtTheirEnds();
        loadAtItsEnds();
        hangAtItsEnds();
        sagOfADropper();
        sagOfALength();
        sagWhat();
        sagsAreAlikeFromBothEnds();
        dropperRefusedLikewise();
        dropperOfNoneAndLess();
        cutRefusedLikewise();
        cutUpToWholeMillimetres();
        cutBelowNone();
        bearsOfALength();
        bearsHalf();
        shortOneOfNone();
        shortOneFrom100();
        shortOneIsTheFirst();
        shortOneOfTheLongestSpan();
        shortOneOfAll();
        heatOfALength();
        heatOfDegrees();
        heatWhat();
        heatOfNothing();
        due.end();
    }

    /** The numbers of carrier() that bear least. */
    private static final int[] LIGHT = {20000, 1, 1, 1, 3000};

    private static WireRow carrier(int tension, int own, int droppers, int load, int hang) {
        WireRow x = new WireRow();
        due.is("carrier()", x.carrier(tension, own, droppers, load, hang), 1);
        return x;
    }

    private static int carrierWith(WireRow x, int number, int n) {
        int[] a = LIGHT.clone();
        a[number] = n;
        return x.carrier(a[0], a[1], a[2], a[3], a[4]);
    }

    private static void sag(WireRow x, int length, int i, long upper, long lower) {
        String call = "sag(" + length + ", " + i + ")";
        due.isFraction(call, x.sag(length, i, 0), x.sag(length, i, 1), upper, lower);
    }

    private static void dropper(WireRow x, int length, int i, long upper, long lower) {
        String call = "dropper(" + length + ", " + i + ")";
        due.isFraction(call, x.dropper(length, i, 0), x.dropper(length, i, 1), upper, lower);
    }

    private static void bears(WireRow x, int length, long upper, long lower) {
        due.isFraction("bears(" + length + ")", x.bears(length, 0), x.bears(length, 1), upper, lower);
    }

    private static void heat(int length, int degrees, long upper, long lower) {
        WireRow x = new WireRow();
        String call = "heat(" + length + ", " + degrees + ")";
        due.isFraction(call, x.heat(length, degrees, 0), x.heat(length, degrees, 1), upper, lower);
    }

    private static void carriersNumbers() {
        String[] names = {"TENSION (1000 to 20000)", "OWN (1 to 50)", "DROPPERS (1 to 12)", "LOAD (1 to 2000)", "HANG (500 to 3000)"};
        int[][] ends = {{1000, 20000}, {1, 50}, {1, 12}, {1, 2000}, {500, 3000}};
        for (int i = 0; i < 5; i++) {
            due.by("16: OUTSIDE: " + names[i]);
            int number = i;
            twins.bounds("carrier()", Scenes::heavy, (x, n) -> carrierWith(x, number, n), ends[i], new long[] {1, 1}, OUTSIDE);
        }
        due.is("carrier() with all least", new WireRow().carrier(1000, 1, 1, 1, 500), 1);
        due.is("carrier() with all most", new WireRow().carrier(20000, 50, 12, 2000, 3000), 1);
    }

    private static void carrierAndBowAreApart() {
        due.by("10, 16: these numbers, nothing else");
        WireRow x = Scenes.tight();
        x.carrier(1000, 50, 12, 2000, 500);
        WireRow twin = Scenes.withMasts(0, 0, 30, 0, 160, 0);
        twin.carrier(1000, 50, 12, 2000, 500);
        twin.bow(500, 1000, 100, 99, 20);
        twins.alike("carrier() comes last", x, twin);
    }

    private static void tensionAtItsEnds() {
        due.by("Terms: pulled by TENSION (1000 to 20000)");
        // one dropper amid: 8 x 100 x 100 by 8, and 4 x 100 by 4
        sag(carrier(1000, 8, 1, 4, 500), 100, 0, 101, 10);
        sag(carrier(20000, 8, 1, 4, 500), 100, 0, 101, 200);
    }

    private static void ownAtItsEnds() {
        due.by("Terms: weighs OWN (1 to 50) a decimetre");
        bears(carrier(1000, 1, 1, 1, 500), 800, 801, 2);
        bears(carrier(1000, 50, 1, 1, 500), 800, 40001, 2);
        // amid: OWN x 20 x 20 by 2, and 4 x 40 by 4
        sag(carrier(1000, 1, 1, 4, 500), 40, 0, 6, 25);
        sag(carrier(1000, 50, 1, 4, 500), 40, 0, 251, 25);
    }

    private static void droppersAtTheirEnds() {
        due.by("Terms: DROPPERS (1 to 12)");
        WireRow one = carrier(1000, 8, 1, 4, 500);
        due.is("told(4)", one.told(4), 1);
        due.is("sag(100, 1, 0) of one", one.sag(100, 1, 0), LOST_UNKNOWN);
        WireRow twelve = carrier(1000, 50, 12, 2000, 500);
        due.is("told(4)", twelve.told(4), 12);
        // at 1 of 24 parts: 50 x 23 x 100 x 100 by 2 x 576, and 2000 x 144 x 100 by 576; by 1000
        sag(twelve, 100, 0, 17275, 288);
        sag(twelve, 100, 11, 17275, 288);
        due.is("sag(100, 12, 0) of twelve", twelve.sag(100, 12, 0), LOST_UNKNOWN);
    }

    private static void loadAtItsEnds() {
        due.by("Terms: each with LOAD (1 to 2000)");
        bears(carrier(1000, 2, 12, 1, 500), 1, 7, 1);
        bears(carrier(1000, 2, 12, 2000, 500), 1, 12001, 1);
        sag(carrier(1000, 8, 1, 2000, 500), 100, 0, 60, 1);
    }

    private static void hangAtItsEnds() {
        due.by("Terms: the HANG (500 to 3000) less SAG");
        dropper(carrier(1000, 8, 1, 4, 500), 100, 0, 4899, 10);
        dropper(carrier(1000, 8, 1, 4, 3000), 100, 0, 29899, 10);
    }

    private static void sagOfADropper() {
        due.by("17: UNKNOWN (LOST less 1): no such DROPPER");
        twins.bounds("sag(100, i, 0) of twelve", Scenes::heavy, (x, i) -> x.sag(100, i, 0),
            new int[] {0, 11}, new long[] {17275, 17275}, LOST_UNKNOWN);
        twins.bounds("sag(100, i, 1) of one", () -> carrier(1000, 8, 1, 4, 500), (x, i) -> x.sag(100, i, 1),
            new int[] {0}, new long[] {10}, LOST_UNKNOWN);
        twins.beyond("sag(100, i, 0) of four at first", WireRow::new, (x, i) -> x.sag(100, i, 0), 0, 3, LOST_UNKNOWN);
    }

    private static void sagOfALength() {
        due.by("17: a length (1 to 800): OUTSIDE (LOST less 2)");
        twins.bounds("sag(length, 0, 0)", Scenes::heavy, (x, l) -> x.sag(l, 0, 0),
            new int[] {1, 800}, new long[] {11543, 9350}, LOST_OUTSIDE);
        twins.bounds("sag(length, 0, 1)", Scenes::heavy, (x, l) -> x.sag(l, 0, 1),
            new int[] {1, 800}, new long[] {23040, 9}, LOST_OUTSIDE);
    }

    private static void sagWhat() {
        due.by("17: OUTSIDE (LOST less 2): what");
        twins.bounds("sag(100, 11, what)", Scenes::heavy, (x, what) -> x.sag(100, 11, what),
            new int[] {0, 1}, new long[] {17275, 288}, LOST_OUTSIDE);
    }

    private static void sagsAreAlikeFromBothEnds() {
        due.by("Terms: if x is not below d, else ..");
        for (int droppers = 1; droppers <= 12; droppers++) {
            WireRow x = carrier(7000, 13, droppers, 170, 1400);
            for (int i = 0; i < droppers; i++) {
                int mirrored = droppers - 1 - i;
                sag(x, 431, i, x.sag(431, mirrored, 0), x.sag(431, mirrored, 1));
            }
        }
        // at 10, 30, 50 of 60
        WireRow y = carrier(2000, 6, 3, 30, 1000);
        sag(y, 60, 0, 39, 40);
        sag(y, 60, 1, 69, 40);
        sag(y, 60, 2, 39, 40);
    }

    private static void dropperRefusedLikewise() {
        due.by("18: refused likewise");
        twins.bounds("dropper(100, i, 1)", Scenes::heavy, (x, i) -> x.dropper(100, i, 1),
            new int[] {0, 11}, new long[] {288, 288}, LOST_UNKNOWN);
        twins.bounds("dropper(length, 0, 0)", Scenes::heavy, (x, l) -> x.dropper(l, 0, 0),
            new int[] {1, 800}, new long[] {11508457, -4850}, LOST_OUTSIDE);
        twins.bounds("dropper(length, 0, 1)", Scenes::heavy, (x, l) -> x.dropper(l, 0, 1),
            new int[] {1, 800}, new long[] {23040, 9}, LOST_OUTSIDE);
        twins.bounds("dropper(800, 0, what)", Scenes::heavy, (x, what) -> x.dropper(800, 0, what),
            new int[] {0, 1}, new long[] {-4850, 9}, LOST_OUTSIDE);
    }

    /** SAG is l times (l and 500) by 1000. */
    private static WireRow oneDropper() {
        return carrier(1000, 8, 1, 2000, 500);
    }

    private static void dropperOfNoneAndLess() {
        due.by("Terms: the lower number above 0 (0 is 0 / 1)");
        dropper(oneDropper(), 499, 0, 1499, 1000);
        dropper(oneDropper(), 500, 0, 0, 1);
        dropper(oneDropper(), 501, 0, -1501, 1000);
        dropper(oneDropper(), 600, 0, -160, 1);
    }

    private static void cutRefusedLikewise() {
        due.by("19: refused likewise: -1000001, -1000002");
        twins.bounds("cut(800, i)", Scenes::heavy, (x, i) -> x.cut(800, i),
            new int[] {0, 11}, new long[] {-538, -538}, CUT_UNKNOWN);
        twins.bounds("cut(length, 0)", Scenes::heavy, (x, l) -> x.cut(l, 0),
            new int[] {1, 800}, new long[] {500, -538}, CUT_OUTSIDE);
        twins.bounds("cut(100, i) of one", () -> carrier(1000, 8, 1, 4, 500), (x, i) -> x.cut(100, i),
            new int[] {0}, new long[] {490}, CUT_UNKNOWN);
    }

    private static void cutUpToWholeMillimetres() {
        due.by("19: cut up to whole millimetres");
        // 500 less (l l and l) by 1000
        WireRow x = carrier(1000, 8, 1, 4, 500);
        due.is("cut(1, 0) of 499.998", x.cut(1, 0), 500);
        due.is("cut(31, 0) of 499.008", x.cut(31, 0), 500);
        due.is("cut(32, 0) of 498.944", x.cut(32, 0), 499);
        due.is("cut(624, 0) of 110", x.cut(624, 0), 110);
        due.is("cut(625, 0) of 108.75", x.cut(625, 0), 109);
        due.is("cut(706, 0) of 0.858", x.cut(706, 0), 1);
    }

    private static void cutBelowNone() {
        due.by("19: up, also below 0");
        due.is("cut(500, 0) of 0", oneDropper().cut(500, 0), 0);
        due.is("cut(501, 0) of -1.501", oneDropper().cut(501, 0), -1);
        due.is("cut(600, 0) of -160", oneDropper().cut(600, 0), -160);
        WireRow x = carrier(1000, 8, 1, 4, 500);
        due.is("cut(707, 0) of -0.556", x.cut(707, 0), 0);
        due.is("cut(708, 0) of -1.972", x.cut(708, 0), -1);
        // at 11 of 24 parts: 50 x 143 x 800 x 800 by 1152, and 2000 x 864 x 800 by 576; by 1000
        due.is("the least of all, -5872.22..", carrier(1000, 50, 12, 2000, 500).cut(800, 5), -5872);
    }

    private static void bearsOfALength() {
        due.by("20: OUTSIDE (LOST less 2): length, what");
        twins.bounds("bears(length, 0)", Scenes::heavy, (x, l) -> x.bears(l, 0),
            new int[] {1, 800}, new long[] {12025, 32000}, LOST_OUTSIDE);
        twins.bounds("bears(1, what)", WireRow::new, (x, what) -> x.bears(1, what),
            new int[] {0, 1}, new long[] {205, 1}, LOST_OUTSIDE);
    }

    private static void bearsHalf() {
        due.by("20: half of it");
        WireRow x = carrier(10000, 3, 5, 7, 1400);
        bears(x, 1, 19, 1);
        bears(x, 2, 41, 2);
        bears(x, 799, 1216, 1);
        bears(x, 800, 2435, 2);
        bears(carrier(1000, 1, 1, 1, 500), 1, 1, 1);
    }

    private static void shortOneOfNone() {
        due.by("21: NONE");
        due.is("shortOne() of nothing", new WireRow().shortOne(), NONE);
        WireRow x = Scenes.withMasts(0, 0);
        x.carrier(1000, 50, 12, 2000, 500);
        due.is("shortOne() of one mast", x.shortOne(), NONE);
        due.is("shortOne() of long ones", Scenes.line().shortOne(), NONE);
    }

    private static int shortOne(int length, int own, int load, int hang) {
        WireRow x = Scenes.withMasts(0, 0, length, 0);
        due.is("carrier()", x.carrier(1000, own, 1, load, hang), 1);
        return x.shortOne();
    }

    private static void shortOneFrom100() {
        due.by("Terms: it is LONG ENOUGH with 100 and more");
        // 500 less (500 x 500 and 500 x LOAD by 4) by 1000
        due.is("with 100", shortOne(500, 8, 1200, 500), NONE);
        due.is("with 100.125", shortOne(500, 8, 1199, 500), NONE);
        due.is("with 99.875, which is cut to 100", shortOne(500, 8, 1201, 500), 0);
        due.is("with 0", shortOne(500, 8, 2000, 500), 0);
        due.is("with -160", shortOne(600, 8, 2000, 500), 0);
    }

    private static void shortOneIsTheFirst() {
        due.by("21: the first DROPPER of all SPANS, by SPANS, then in each");
        WireRow x = Scenes.withMasts(0, 0, 100, 0, 700, 0, 1500, 0);
        // of 600: 100, 300, 500; SAG by OWN 10: 250, 450, 250, and by LOADS at most 0.75
        x.carrier(1000, 10, 3, 1, 500);
        due.is("the second of the second span", x.shortOne(), 101);
        x.carrier(1000, 10, 3, 1, 600);
        due.is("all of the second span are long enough, the third one's second is not", x.shortOne(), 201);
        x.carrier(1000, 20, 3, 1, 600);
        due.is("the first of the second span", x.shortOne(), 100);
        x.fell(0);
        due.is("the first of the first span", x.shortOne(), 0);
    }

    private static void shortOneOfTheLongestSpan() {
        due.by("21: of all SPANS, however long");
        due.is("a span of 4000 with 100", shortOne(4000, 1, 1, 2101), NONE);
        due.is("a span of 4000 with 99", shortOne(4000, 1, 1, 2100), 0);
        due.is("a span of 801", shortOne(801, 50, 2000, 500), 0);
    }

    private static void shortOneOfAll() {
        due.by("21: 100 times the SPAN and its number");
        WireRow x = new WireRow();
        x.length(4000);
        for (int i = 0; i < 39; i++) x.peg(10 * i, 1);
        x.peg(980, 1);
        for (int i = 0; i < 40; i++) x.mast(i, 0);
        // of 600: at 275 SAG is 4.5 x 275 x 325 by 1000, 402 and a little; at 225 it is 379 and a little
        x.carrier(1000, 9, 12, 1, 500);
        due.is("the sixth of twelve of the last of 39", x.shortOne(), 3805);
    }

    private static void heatOfALength() {
        due.by("22: so many decimetres (0 to 8000): OUTSIDE (LOST less 2)");
        twins.bounds("heat(length, 80, 0)", WireRow::new, (x, l) -> x.heat(l, 80, 0),
            new int[] {0, 8000}, new long[] {0, 952}, LOST_OUTSIDE);
        twins.bounds("heat(length, 11, 1)", WireRow::new, (x, l) -> x.heat(l, 11, 1),
            new int[] {0, 1, 7999, 8000}, new long[] {1, 10000, 10000, 5}, LOST_OUTSIDE);
    }

    private static void heatOfDegrees() {
        due.by("22: T degrees (-40 to 80): OUTSIDE (LOST less 2)");
        twins.bounds("heat(8000, degrees, 0)", WireRow::new, (x, t) -> x.heat(8000, t, 0),
            new int[] {-40, 80}, new long[] {-680, 952}, LOST_OUTSIDE);
        twins.bounds("heat(1, degrees, 1)", WireRow::new, (x, t) -> x.heat(1, t, 1),
            new int[] {-40, 80}, new long[] {200, 1000}, LOST_OUTSIDE);
    }

    private static void heatWhat() {
        due.by("22: OUTSIDE (LOST less 2): what");
        twins.bounds("heat(5, 30, what)", WireRow::new, (x, what) -> x.heat(5, 30, what),
            new int[] {0, 1}, new long[] {17, 100}, LOST_OUTSIDE);
    }

    private static void heatOfNothing() {
        due.by("22: longer than at 10 (less, if this is below 0)");
        heat(8000, 10, 0, 1);
        heat(0, 80, 0, 1);
        heat(0, -40, 0, 1);
        heat(1, 11, 17, 10000);
        heat(1, 9, -17, 10000);
        heat(1, 0, -17, 1000);
    }
}
