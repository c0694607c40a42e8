import java.util.function.Supplier;

/** Each sentence of the document that names a bound or an edge, for promises 10 to 15. */
public final class WindBoundsTest {
    private static final int NONE = -6, UNKNOWN = -1, OUTSIDE = -2, NO = -5;
    private static final long LOST_UNKNOWN = -1000000000000001L;
    private static final long LOST_OUTSIDE = -1000000000000002L;

    private static final Due due = new Due();
    private static final Twins twins = new Twins(due);

    public static void main(String[] args) {
        bowsNumbers();
        swayBelowBow();
        windAtItsEnds();
        pullAtItsEnds();
        bowAtItsEnds();
        swayAtItsEnds();
        reachAtItsEnds();
        bowStaysTillTheNext();
        offInNoSpan();
        offWhat();
        offInLowestTerms();
        offOfTwoSpans();
        offAtItsFarthest();
        keptInNoSpan();
        keptIsNotAbove();
        keptByASmallPart();
        keptAtAMast();
        worstOfNone();
        worstIsTheFirst();
        worstAtTheEnds();
        worstHasNoReach();
        worstOfTheLongestLine();
        spanKeptUnknown();
        spanKeptAtItsEnds();
        spanKeptInTheMiddle();
        spanKeptWithinTheReach();
        waysOfPegs();
        waysSide();
        waysNotAhead();
        waysFromNoneToNine();
        waysLeaveMasts();
        due.end();
    }

    /** The numbers of bow() that leave most. */
    private static final int[] EASY = {0, 20000, 1000, 0, 800};

    private static int bowWith(WireRow x, int number, int n) {
        int[] a = EASY.clone();
        a[number] = n;
        return x.bow(a[0], a[1], a[2], a[3], a[4]);
    }

    private static void bowsNumbers() {
        String[] names = {"WIND (0 to 500)", "PULL (1000 to 20000)", "BOW (100 to 1000)", "SWAY (0 to 99)", "REACH (20 to 800)"};
        int[][] ends = {{0, 500}, {1000, 20000}, {100, 1000}, {0, 99}, {20, 800}};
        for (int i = 0; i < 5; i++) {
            due.by("10: OUTSIDE: " + names[i]);
            int number = i;
            twins.bounds("bow()", Scenes::tight, (x, n) -> bowWith(x, number, n), ends[i], new long[] {1, 1}, OUTSIDE);
        }
        due.is("bow() with all least", new WireRow().bow(0, 1000, 100, 0, 20), 1);
        due.is("bow() with all most", new WireRow().bow(500, 20000, 1000, 99, 800), 1);
    }

    private static void swayBelowBow() {
        due.by("10: OUTSIDE: also SWAY is not below BOW");
        due.is("bow(0, 20000, 100, 99, 800)", Scenes.tight().bow(0, 20000, 100, 99, 800), 1);
        twins.refused("bow(0, 20000, 100, 100, 800)", Scenes::tight, x -> x.bow(0, 20000, 100, 100, 800), OUTSIDE);
        twins.refused("bow(0, 20000, 99, 99, 800)", Scenes::tight, x -> x.bow(0, 20000, 99, 99, 800), OUTSIDE);
        twins.refused("bow(0, 20000, 50, 60, 800)", Scenes::tight, x -> x.bow(0, 20000, 50, 60, 800), OUTSIDE);
        twins.refused("bow(0, 20000, 50, 40, 800)", Scenes::tight, x -> x.bow(0, 20000, 50, 40, 800), OUTSIDE);
        twins.refused("bow(0, 20000, 1000, 100, 800)", Scenes::tight, x -> x.bow(0, 20000, 1000, 100, 800), OUTSIDE);
    }

    private static int worst(WireRow x, int wind, int pull, int bow, int sway) {
        due.is("bow()", x.bow(wind, pull, bow, sway, 800), 1);
        return x.worst();
    }

    private static void windAtItsEnds() {
        due.by("Terms: BLOWN by WIND (0 to 500)");
        WireRow x = Scenes.withMasts(0, 0, 130, 0);
        due.is("WIND 0", worst(x, 0, 1000, 100, 99), NONE);
        // by half of 50 x 80 it is all the room of 2000
        due.is("WIND 500", worst(x, 500, 1000, 100, 99), 51);
        due.is("WIND 499: 499 x 51 x 79 is above, 499 x 50 x 80 not", worst(x, 499, 1000, 100, 99), 51);
        due.is("WIND 1 leaves a wire at the room's end nowhere", worst(Scenes.withMasts(0, 1, 130, 1), 1, 20000, 100, 99), 1);
        due.is("WIND 0 leaves it everywhere", worst(Scenes.withMasts(0, 1, 130, 1), 0, 20000, 100, 99), NONE);
    }

    private static void pullAtItsEnds() {
        due.by("Terms: by the PULL (1000 to 20000)");
        due.is("PULL 1000 in a span of 126", worst(Scenes.withMasts(0, 0, 126, 0), 500, 1000, 100, 99), NONE);
        due.is("PULL 1000 in a span of 127", worst(Scenes.withMasts(0, 0, 127, 0), 500, 1000, 100, 99), 58);
        due.is("PULL 20000 in a span of 565", worst(Scenes.withMasts(0, 0, 565, 0), 500, 20000, 100, 99), NONE);
        due.is("PULL 20000 in a span of 566", worst(Scenes.withMasts(0, 0, 566, 0), 500, 20000, 100, 99), 274);
    }

    /** In this span the wire is off by the curve times x times (400 less x). */
    private static WireRow bentSpan(int curve) {
        WireRow x = new WireRow();
        x.bend(0, 400, curve);
        Scenes.putMasts(x, 0, 0, 400, 0);
        return x;
    }

    private static void bowAtItsEnds() {
        due.by("Terms: not above 2000 times the BOW (100 to 1000)");
        for (int sign : new int[] {1, -1}) {
            due.is("BOW 100, all used", worst(bentSpan(5 * sign), 0, 1000, 100, 0), NONE);
            due.is("BOW 100, a little more", worst(bentSpan(5 * sign), 1, 20000, 100, 0), 200);
            due.is("BOW 1000, all used", worst(bentSpan(50 * sign), 0, 1000, 1000, 0), NONE);
            due.is("BOW 1000, a little more", worst(bentSpan(50 * sign), 1, 20000, 1000, 0), 200);
            due.is("BOW 999", worst(bentSpan(50 * sign), 0, 1000, 999, 0), 194);
        }
    }

    private static void swayAtItsEnds() {
        due.by("Terms: less 2000 times the SWAY (0 to 99)");
        WireRow x = Scenes.withMasts(0, 0, 100, 1, 200, 2, 300, 100, 400, 101);
        due.is("SWAY 0: just more than 100 of 100", worst(x, 0, 1000, 100, 0), 301);
        due.is("SWAY 1: just more than 99 of 100", worst(x, 0, 1000, 100, 1), 299);
        due.is("SWAY 99: just more than 1 of 100", worst(x, 0, 1000, 100, 99), 101);
        due.is("SWAY 99 of 1000: 137 x 263 is not above 36040", worst(bentSpan(50), 0, 1000, 1000, 99), 138);
    }

    private static int spanKept(int length, int reach) {
        WireRow x = Scenes.withMasts(0, 0, length, 0);
        due.is("bow()", x.bow(0, 1000, 100, 0, reach), 1);
        return x.spanKept(0);
    }

    private static void reachAtItsEnds() {
        due.by("Terms: it is not longer than the REACH (20 to 800)");
        due.is("19 with REACH 20", spanKept(19, 20), 1);
        due.is("20 with REACH 20", spanKept(20, 20), 1);
        due.is("21 with REACH 20", spanKept(21, 20), 0);
        due.is("21 with REACH 21", spanKept(21, 21), 1);
        due.is("800 with REACH 799", spanKept(800, 799), 0);
        due.is("800 with REACH 800", spanKept(800, 800), 1);
        due.is("801 with REACH 800", spanKept(801, 800), 0);
        due.is("4000 with REACH 800", spanKept(4000, 800), 0);
        due.is("1 with REACH 20", spanKept(1, 20), 1);
    }

    private static void bowStaysTillTheNext() {
        due.by("10: WIND, PULL, BOW, SWAY, REACH: 1");
        WireRow x = Scenes.tight();
        due.is("worst()", x.worst(), 81);
        due.is("spanKept(0)", x.spanKept(0), 0);
        due.is("bow() with PULL 1056", x.bow(500, 1056, 100, 99, 30), 1);
        due.is("worst(), at one place alone", x.worst(), 95);
        due.is("spanKept(0)", x.spanKept(0), 1);
        due.is("bow() with PULL 1057", x.bow(500, 1057, 100, 99, 29), 1);
        due.is("worst()", x.worst(), NONE);
        due.is("spanKept(0)", x.spanKept(0), 0);
    }

    /** Pegs ahead of and behind the masts: there is a line, but no span. */
    private static WireRow spanAmidPegs() {
        WireRow x = Scenes.withPegs(0, 10, 15, 20, 30);
        x.mast(1, 3);
        x.mast(3, -3);
        return x;
    }

    private static void offInNoSpan() {
        due.by("11: UNKNOWN: it lies in no SPAN: LOST less 1");
        twins.bounds("off(x, 0)", Scenes::line, (x, n) -> x.off(n, 0), new int[] {0, 1000}, new long[] {400000, 0}, LOST_UNKNOWN);
        twins.bounds("off(x, 1)", Scenes::line, (x, n) -> x.off(n, 1), new int[] {0, 1000}, new long[] {1, 1}, LOST_UNKNOWN);
        twins.bounds("off(x, 0) amid pegs", WindBoundsTest::spanAmidPegs, (x, n) -> x.off(n, 0),
            new int[] {10, 20}, new long[] {6000, -6000}, LOST_UNKNOWN);
        twins.refused("off(0, 0) of nothing", WireRow::new, x -> x.off(0, 0), LOST_UNKNOWN);
        twins.refused("off(10, 0) with a peg", () -> Scenes.withPegs(10), x -> x.off(10, 0), LOST_UNKNOWN);
        twins.refused("off(10, 0) with one mast", () -> Scenes.withMasts(10, 1), x -> x.off(10, 0), LOST_UNKNOWN);
        WireRow x = Scenes.withMasts(10, 1, 20, 1);
        x.fell(1);
        due.is("off(10, 0) when a mast is felled", x.off(10, 0), LOST_UNKNOWN);
    }

    private static void offWhat() {
        due.by("11: OUTSIDE: what: LOST less 2");
        twins.bounds("off(250, what)", Scenes::line, (x, what) -> x.off(250, what),
            new int[] {0, 1}, new long[] {266000, 1}, LOST_OUTSIDE);
        twins.beyond("off(500, what) at a mast", Scenes::line, (x, what) -> x.off(500, what), 0, 1, LOST_OUTSIDE);
    }

    private static void off(WireRow x, int place, long upper, long lower) {
        due.isFraction("off(" + place + ")", x.off(place, 0), x.off(place, 1), upper, lower);
    }

    private static void offInLowestTerms() {
        due.by("Terms: in lowest terms, the lower number above 0 (0 is 0 / 1)");
        WireRow x = Scenes.withMasts(0, 1, 3, 0, 9, -1, 3999, -1, 4000, 0);
        off(x, 0, 2000, 1);
        off(x, 1, 4000, 3);
        off(x, 2, 2000, 3);
        off(x, 3, 0, 1);
        off(x, 4, -1000, 3);
        off(x, 6, -1000, 1);
        off(x, 9, -2000, 1);
        off(x, 1000, -2000, 1);
        WireRow y = Scenes.withMasts(0, 0, 3989, 1);
        off(y, 1, 2000, 3989);
        off(y, 3988, 2000 * 3988, 3989);
        off(y, 0, 0, 1);
    }

    private static void offOfTwoSpans() {
        due.by("11: of two SPANS it is the same");
        WireRow x = Scenes.line();
        off(x, 500, -300000, 1);
        x.fell(0);
        off(x, 500, -300000, 1);
        x.mast(0, 200);
        x.fell(4);
        off(x, 500, -300000, 1);
    }

    private static void offAtItsFarthest() {
        due.by("11: OFF: WIRE less ASIDE");
        WireRow x = new WireRow();
        x.length(4000);
        x.bend(0, 4000, 50);
        Scenes.putMasts(x, 0, 400, 4000, 400);
        off(x, 2000, 200800000, 1);
        WireRow y = new WireRow();
        y.length(4000);
        y.bend(0, 4000, -50);
        Scenes.putMasts(y, 0, -400, 3999, -400);
        off(y, 2000, -800000 - 50L * 2000 * 1999, 1);
        off(y, 1, -800000 - 50L * 3998, 1);
    }

    private static void keptInNoSpan() {
        due.by("12: UNKNOWN: it lies in no SPAN");
        twins.bounds("kept()", Scenes::line, WireRow::kept, new int[] {0, 1000}, new long[] {1, 1}, UNKNOWN);
        twins.bounds("kept() amid pegs", WindBoundsTest::spanAmidPegs, WireRow::kept,
            new int[] {10, 20}, new long[] {1, 1}, UNKNOWN);
        twins.refused("kept(0) of nothing", WireRow::new, x -> x.kept(0), UNKNOWN);
        twins.refused("kept(10) with a peg", () -> Scenes.withPegs(10), x -> x.kept(10), UNKNOWN);
        twins.refused("kept(10) with one mast", () -> Scenes.withMasts(10, 1), x -> x.kept(10), UNKNOWN);
    }

    private static void keptIsNotAbove() {
        due.by("12: KEPT, if .. together are not above");
        WireRow x = Scenes.withMasts(0, 0, 130, 0);
        x.bow(500, 1000, 100, 99, 800);
        int[] places = {0, 49, 50, 51, 65, 79, 80, 81, 130};
        int[] want = {1, 1, 1, 0, 0, 0, 1, 1, 1};
        for (int i = 0; i < places.length; i++) {
            due.is("kept(" + places[i] + ")", x.kept(places[i]), want[i]);
        }
        for (int side : new int[] {100, -100}) {
            WireRow y = Scenes.withMasts(0, side, 10, side);
            y.bow(0, 1000, 100, 0, 800);
            due.is("kept(5) with all the room used", y.kept(5), 1);
            y.bow(0, 1000, 100, 1, 800);
            due.is("kept(5) with one less", y.kept(5), 0);
        }
    }

    /** At 1 of 3000 the wire is off by 2/3 less than there is room for. */
    private static void keptByASmallPart() {
        due.by("12: the size of OFF and what it is BLOWN by together");
        for (int sign : new int[] {1, -1}) {
            WireRow x = Scenes.withMasts(0, 100 * sign, 3000, 99 * sign);
            due.isFraction("off(1)", x.off(1, 0), x.off(1, 1), 599998 * sign, 3);
            x.bow(4, 17994, 100, 0, 800);
            due.is("kept(1), blown by 4 x 2999 by 17994", x.kept(1), 1);
            due.is("worst()", x.worst(), NONE);
            x.bow(4, 17993, 100, 0, 800);
            due.is("kept(1), blown by 4 x 2999 by 17993", x.kept(1), 0);
            due.is("kept(2), blown by 4 x 2 x 2998 by 17993, of 4/3", x.kept(2), 1);
            due.is("worst()", x.worst(), 1);
        }
    }

    private static void keptAtAMast() {
        due.by("12: at a MAST it is BLOWN by nothing");
        WireRow x = Scenes.withMasts(0, 100, 200, 100, 400, -100);
        x.bow(500, 1000, 100, 0, 800);
        due.is("kept(0)", x.kept(0), 1);
        due.is("kept(1)", x.kept(1), 0);
        due.is("kept(199)", x.kept(199), 0);
        due.is("kept(200) of two spans", x.kept(200), 1);
        due.is("kept(201), blown less than it goes in", x.kept(201), 1);
        due.is("kept(400)", x.kept(400), 1);
    }

    private static void worstOfNone() {
        due.by("13: NONE");
        due.is("worst() of nothing", new WireRow().worst(), NONE);
        due.is("worst() of pegs alone", Scenes.withPegs(0, 10).worst(), NONE);
        WireRow x = Scenes.withMasts(10, 400);
        x.bow(500, 1000, 100, 99, 20);
        due.is("worst() of one mast, too far out", x.worst(), NONE);
        due.is("worst() of spans that are kept", Scenes.line().worst(), NONE);
    }

    private static void worstIsTheFirst() {
        due.by("13: the first place, from 0 on, that lies in a SPAN");
        WireRow x = Scenes.withMasts(10, 0, 20, 101, 30, 0, 40, 101, 50, 101);
        x.bow(0, 1000, 100, 0, 800);
        due.is("worst() is at 20, though 40 to 50 is worse", x.worst(), 20);
        x.mast(1, 100);
        due.is("worst() is at 40", x.worst(), 40);
        x.mast(0, 101);
        due.is("worst() is the first span's first place", x.worst(), 10);
        x.fell(0);
        due.is("worst() without that span", x.worst(), 40);
    }

    private static void worstAtTheEnds() {
        due.by("13: is not KEPT");
        WireRow x = Scenes.withMasts(0, 101, 100, 0, 200, 0);
        x.bow(0, 1000, 100, 0, 800);
        due.is("worst() at place 0", x.worst(), 0);
        x.mast(0, 0);
        x.mast(2, -101);
        due.is("kept(199)", x.kept(199), 1);
        due.is("worst() at the last place of the last span", x.worst(), 200);
        x.mast(2, -100);
        due.is("worst() with room enough", x.worst(), NONE);
    }

    private static void worstHasNoReach() {
        due.by("13: a place, not a SPAN, is KEPT");
        WireRow x = Scenes.withMasts(0, 0, 4000, 0);
        x.bow(0, 1000, 100, 0, 20);
        due.is("worst() of a span far beyond the REACH", x.worst(), NONE);
        due.is("spanKept(0)", x.spanKept(0), 0);
    }

    private static void worstOfTheLongestLine() {
        due.by("13: from 0 on");
        WireRow x = Scenes.withMasts(0, 0, 3999, 0, 4000, 101);
        x.bow(0, 1000, 100, 0, 20);
        due.is("worst() at the longest line's end", x.worst(), 4000);
        WireRow y = Scenes.fortyMasts();
        y.mast(39, 400);
        y.bow(0, 1000, 399, 0, 20);
        due.is("worst() at the last of forty masts", y.worst(), 390);
    }

    private static void spanKeptUnknown() {
        due.by("14: SPAN i (from 0): UNKNOWN");
        twins.bounds("spanKept()", Scenes::line, WireRow::spanKept, new int[] {0, 1}, new long[] {1, 1}, UNKNOWN);
        twins.bounds("spanKept() of 39", Scenes::fortyMasts, WireRow::spanKept,
            new int[] {0, 38}, new long[] {1, 1}, UNKNOWN);
        twins.refused("spanKept(0) of nothing", WireRow::new, x -> x.spanKept(0), UNKNOWN);
        twins.refused("spanKept(0) of pegs", () -> Scenes.withPegs(0, 10), x -> x.spanKept(0), UNKNOWN);
        twins.refused("spanKept(0) of one mast", () -> Scenes.withMasts(0, 0), x -> x.spanKept(0), UNKNOWN);
        WireRow x = Scenes.line();
        x.fell(2);
        due.is("spanKept(0) of all, beyond the REACH", x.spanKept(0), 0);
        due.is("spanKept(1) when there is one span", x.spanKept(1), UNKNOWN);
    }

    private static void spanKeptAtItsEnds() {
        due.by("14: KEPT, if all its places from x0 to x1 are");
        for (int sign : new int[] {1, -1}) {
            WireRow x = Scenes.withMasts(0, 0, 10, 101 * sign, 20, 0, 30, 0);
            x.bow(0, 1000, 100, 0, 800);
            due.is("kept(9)", x.kept(9), 1);
            due.is("spanKept(0), not at its last place", x.spanKept(0), 0);
            due.is("kept(11)", x.kept(11), 1);
            due.is("spanKept(1), not at its first place", x.spanKept(1), 0);
            due.is("spanKept(2)", x.spanKept(2), 1);
            x.mast(1, 100 * sign);
            due.is("spanKept(0) with room enough", x.spanKept(0), 1);
            due.is("spanKept(1) with room enough", x.spanKept(1), 1);
        }
    }

    private static void spanKeptInTheMiddle() {
        due.by("14: all its places");
        // blown too far at the place amid alone
        WireRow x = Scenes.withMasts(0, 0, 130, 0);
        x.bow(500, 1056, 100, 99, 800);
        due.is("kept(64)", x.kept(64), 1);
        due.is("kept(65)", x.kept(65), 0);
        due.is("spanKept(0)", x.spanKept(0), 0);
        x.bow(500, 1057, 100, 99, 800);
        due.is("spanKept(0) with more PULL", x.spanKept(0), 1);
        for (int sign : new int[] {1, -1}) {
            WireRow y = bentSpan(50 * sign);
            y.bow(0, 1000, 1000, 0, 800);
            due.is("spanKept(0) with all the room used amid", y.spanKept(0), 1);
            y.bow(0, 1000, 999, 0, 800);
            due.is("spanKept(0) with less", y.spanKept(0), 0);
            // off by 50 x 40 x 41 at most: between 40 and 41 there is no place
            WireRow z = new WireRow();
            z.bend(0, 81, 50 * sign);
            Scenes.putMasts(z, 0, 0, 81, 0);
            z.bow(0, 1000, 100, 59, 800);
            due.is("spanKept(0) with all the room used at two places", z.spanKept(0), 1);
            z.bow(1, 20000, 100, 59, 800);
            due.is("spanKept(0) in a little wind", z.spanKept(0), 0);
            due.is("worst() in a little wind", z.worst(), 40);
        }
    }

    private static void spanKeptWithinTheReach() {
        due.by("14: and it is not longer than the REACH");
        WireRow x = Scenes.withMasts(0, 0, 20, 0, 41, 0);
        x.bow(0, 1000, 100, 0, 20);
        due.is("spanKept(0)", x.spanKept(0), 1);
        due.is("spanKept(1)", x.spanKept(1), 0);
        x.bow(0, 1000, 100, 0, 21);
        due.is("spanKept(1) with REACH 21", x.spanKept(1), 1);
        x.fell(1);
        due.is("spanKept(0) of both", x.spanKept(0), 0);
    }

    private static void waysOfPegs() {
        due.by("15: UNKNOWN");
        Supplier<WireRow> scene = () -> Scenes.withPegs(0, 20, 50);
        twins.beyond("ways(from, 2, 5)", scene, (x, p) -> x.ways(p, 2, 5), 0, 2, UNKNOWN);
        twins.beyond("ways(0, to, 5)", scene, (x, p) -> x.ways(0, p, 5), 0, 2, UNKNOWN);
        twins.refused("ways(0, 1, 5) of nothing", WireRow::new, x -> x.ways(0, 1, 5), UNKNOWN);
        twins.refused("ways(0, 0, 5) of nothing", WireRow::new, x -> x.ways(0, 0, 5), UNKNOWN);
        twins.refused("ways(0, 1, 5) of one peg", () -> Scenes.withPegs(10), x -> x.ways(0, 1, 5), UNKNOWN);
        due.is("ways(0, 2, 5)", scene.get().ways(0, 2, 5), 9);
        WireRow x = Scenes.fortyPegs();
        due.is("ways(0, 39, 400)", x.ways(0, 39, 400), 9);
        due.is("ways(38, 39, 0)", x.ways(38, 39, 0), 9);
        due.is("ways(39, 40, 0)", x.ways(39, 40, 0), UNKNOWN);
    }

    private static void waysSide() {
        due.by("15: OUTSIDE: s (0 to 400)");
        twins.bounds("ways(0, 1, s)", () -> Scenes.withPegs(0, 20), (x, s) -> x.ways(0, 1, s),
            new int[] {0, 400}, new long[] {9, 9}, OUTSIDE);
        twins.beyond("ways(0, 4, s) beyond the REACH", Scenes::line, (x, s) -> x.ways(0, 4, s), 0, 400, OUTSIDE);
        WireRow x = Scenes.withPegs(0, 20);
        x.bow(0, 1000, 399, 0, 20);
        due.is("ways(0, 1, 399)", x.ways(0, 1, 399), 9);
        due.is("ways(0, 1, 400)", x.ways(0, 1, 400), 1);
    }

    private static void waysNotAhead() {
        due.by("15: NO: the first one is not ahead of the second one");
        for (int p : new int[] {0, 2, 4}) {
            twins.refused("ways(" + p + ", " + p + ", 5)", Scenes::line, x -> x.ways(p, p, 5), NO);
        }
        twins.refused("ways(1, 0, 5)", Scenes::line, x -> x.ways(1, 0, 5), NO);
        twins.refused("ways(4, 0, 5)", Scenes::line, x -> x.ways(4, 0, 5), NO);
        twins.refused("ways(39, 38, 5)", Scenes::fortyMasts, x -> x.ways(39, 38, 5), NO);
        due.is("ways(0, 1, 5)", Scenes.line().ways(0, 1, 5), 9);
    }

    private static void waysFromNoneToNine() {
        due.by("15: 0 to 9 (with s 0: 0 or 9)");
        WireRow x = Scenes.withPegs(0, 20, 50, 101);
        x.bow(0, 1000, 100, 0, 50);
        due.is("ways(0, 2, 0) just within the REACH", x.ways(0, 2, 0), 9);
        due.is("ways(2, 3, 0) just beyond the REACH", x.ways(2, 3, 0), 0);
        due.is("ways(2, 3, 50) just beyond the REACH", x.ways(2, 3, 50), 0);
        due.is("ways(0, 1, 100)", x.ways(0, 1, 100), 9);
        due.is("ways(0, 1, 101)", x.ways(0, 1, 101), 1);
        x.bow(1, 1000, 100, 0, 50);
        due.is("ways(0, 1, 100) in the WIND: not both on one side", x.ways(0, 1, 100), 7);
        due.is("ways(0, 1, 101) in the WIND", x.ways(0, 1, 101), 1);
        WireRow y = new WireRow();
        y.bend(0, 100, 50);
        y.peg(0, 1);
        y.peg(100, 1);
        // off by 125000 amid, of 118000
        y.bow(0, 1000, 100, 41, 800);
        due.is("ways(0, 1, 0) in a bend", y.ways(0, 1, 0), 0);
        due.is("ways(0, 1, 3) in a bend", y.ways(0, 1, 3), 0);
        due.is("ways(0, 1, 4) in a bend", y.ways(0, 1, 4), 1);
        due.is("ways(0, 1, 8) in a bend", y.ways(0, 1, 8), 3);
    }

    private static void waysLeaveMasts() {
        due.by("15: could be KEPT: masts are as they were");
        WireRow x = Scenes.line();
        due.is("ways(0, 1, 50)", x.ways(0, 1, 50), 9);
        due.is("told(2)", x.told(2), 3);
        due.is("about(0, 3)", x.about(0, 3), 200);
        due.is("about(1, 2)", x.about(1, 2), 0);
        due.is("spanKept(0)", x.spanKept(0), 1);
    }
}
