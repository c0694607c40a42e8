import java.util.Random;

/** Promises 10 to 15: the bow, and whether places and spans are kept. */
public final class WindTest {
    private static final long LOST_UNKNOWN = -1000000000000001L;
    private static final long LOST_OUTSIDE = -1000000000000002L;
    private static final int MIN = Integer.MIN_VALUE;
    private static final int MAX = Integer.MAX_VALUE;

    private static final Due due = new Due();

    public static void main(String[] args) {
        bowsRanges();
        bowRefusedChangesNothing();
        offFractions();
        offInBends();
        offRefused();
        keptAtTheEdge();
        keptToBothSides();
        keptOutside();
        keptByALittle();
        worst();
        worstAtTheLastMast();
        worstOfAllPegs();
        topJustKept();
        spanBehindAllBends();
        spanKeptReach();
        ways();
        waysRefused();
        spansAtTheEdge();
        due.end();
    }

    private static WireRow withMasts(int... placesAndSides) {
        WireRow x = new WireRow();
        for (int i = 0; i < placesAndSides.length; i += 2) x.peg(placesAndSides[i], 1);
        for (int i = 0; i < placesAndSides.length; i += 2) x.mast(i / 2, placesAndSides[i + 1]);
        return x;
    }

    private static void bowsRanges() {
        WireRow x = new WireRow();
        int[] least = {0, 1000, 100, 0, 20};
        int[] most = {500, 20000, 1000, 99, 800};
        due.is("bow with all least", x.bow(0, 1000, 100, 0, 20), 1);
        due.is("bow with all most", x.bow(500, 20000, 1000, 99, 800), 1);
        due.is("bow with SWAY just below BOW", x.bow(0, 1000, 100, 99, 20), 1);
        due.is("bow with SWAY below BOW, but 100", x.bow(0, 1000, 200, 100, 20), -2);
        for (int i = 0; i < 5; i++) {
            for (int wrong : new int[] {least[i] - 1, most[i] + 1, MIN, MAX}) {
                int[] a = least.clone();
                a[i] = wrong;
                due.is("bow with number " + i + " " + wrong, x.bow(a[0], a[1], a[2], a[3], a[4]), -2);
            }
        }
    }

    private static void bowRefusedChangesNothing() {
        WireRow x = withMasts(0, 0, 100, 0);
        due.is("bow(4, 1000, 100, 95, 100)", x.bow(4, 1000, 100, 95, 100), 1);
        due.is("kept(50)", x.kept(50), 1);
        due.is("bow(500, 1000, 100, 95, 801)", x.bow(500, 1000, 100, 95, 801), -2);
        due.is("bow(500, 1000, 100, 100, 100)", x.bow(500, 1000, 100, 100, 100), -2);
        due.is("bow(500, 1000, 100, 99, 19)", x.bow(500, 1000, 100, 99, 19), -2);
        due.is("spanKept(0)", x.spanKept(0), 1);
        due.is("bow(500, 100000, 100, 99, 20)", x.bow(500, 100000, 100, 99, 20), -2);
        due.is("spanKept(0) still", x.spanKept(0), 1);
    }

    private static void offFractions() {
        WireRow x = withMasts(0, 1, 3, 0, 9, -1);
        due.isFraction("off(0)", x.off(0, 0), x.off(0, 1), 2000, 1);
        due.isFraction("off(1)", x.off(1, 0), x.off(1, 1), 4000, 3);
        due.isFraction("off(2)", x.off(2, 0), x.off(2, 1), 2000, 3);
        due.isFraction("off(3)", x.off(3, 0), x.off(3, 1), 0, 1);
        due.isFraction("off(4)", x.off(4, 0), x.off(4, 1), -1000, 3);
        due.isFraction("off(6)", x.off(6, 0), x.off(6, 1), -1000, 1);
        due.isFraction("off(9)", x.off(9, 0), x.off(9, 1), -2000, 1);
    }

    private static void offInBends() {
        WireRow x = new WireRow();
        x.bend(0, 10, 1);
        x.bend(10, 20, -3);
        x.peg(0, 1);
        x.peg(17, 1);
        x.peg(30, 1);
        x.mast(0, 0);
        x.mast(1, 2);
        // ASIDE of 17: 289 - 49 - 3 x 49 = 93; the wire there: 4093
        due.isFraction("off(10)", x.off(10, 0), x.off(10, 1), 40930 - 1700, 17);
        due.isFraction("off(12)", x.off(12, 0), x.off(12, 1), 4093 * 12 - 17 * (144 - 4 - 12), 17);
        x.mast(2, -400);
        // ASIDE of 30: 900 - 400 - 3 x (400 - 100) = -400
        due.isFraction("off(30)", x.off(30, 0), x.off(30, 1), -800000, 1);
        due.isFraction("off(17)", x.off(17, 0), x.off(17, 1), 4000, 1);
        due.isFraction("off(18)", x.off(18, 0), x.off(18, 1), 4093 * 12 - 800400 - 13 * (324 - 64 - 192), 13);
    }

    private static void offRefused() {
        WireRow x = withMasts(10, 0, 20, 0);
        for (int place : new int[] {9, 21, -1, 1001, MIN, MAX}) {
            due.is("off(" + place + ", 0)", x.off(place, 0), LOST_UNKNOWN);
            due.is("off(" + place + ", 2)", x.off(place, 2), LOST_UNKNOWN);
            due.is("kept(" + place + ")", x.kept(place), -1);
        }
        for (int what : new int[] {-1, 2, MIN, MAX}) {
            due.is("off(15, " + what + ")", x.off(15, what), LOST_OUTSIDE);
        }
        x.fell(0);
        due.is("off at one mast", x.off(20, 0), LOST_UNKNOWN);
        x.fell(1);
        due.is("off with no mast", x.off(20, 0), LOST_UNKNOWN);
    }

    private static void keptAtTheEdge() {
        WireRow x = withMasts(0, 0, 130, 0);
        // BLOWN by half of (x less x0) times (x1 less x), 2000 at 50 and 80, is all that is left
        x.bow(500, 1000, 100, 99, 800);
        due.is("kept(50)", x.kept(50), 1);
        due.is("kept(51)", x.kept(51), 0);
        due.is("kept(79)", x.kept(79), 0);
        due.is("kept(80)", x.kept(80), 1);
        due.is("worst()", x.worst(), 51);
        due.is("spanKept(0)", x.spanKept(0), 0);
        x.bow(499, 1000, 100, 99, 800);
        due.is("kept(51) with less wind", x.kept(51), 0);
        // 2000 at 64 and 66, and a little more in the middle, at 65 alone
        x.bow(500, 1056, 100, 99, 800);
        due.is("kept(64) with more pull", x.kept(64), 1);
        due.is("kept(66) with more pull", x.kept(66), 1);
        due.is("worst() with more pull", x.worst(), 65);
        due.is("spanKept(0) with more pull", x.spanKept(0), 0);
        x.bow(500, 1057, 100, 99, 800);
        due.is("worst() with yet more pull", x.worst(), -6);
        due.is("spanKept(0) with yet more pull", x.spanKept(0), 1);
    }

    private static void keptToBothSides() {
        WireRow x = withMasts(0, 100, 100, 100, 200, -100, 300, -100);
        x.bow(0, 1000, 100, 0, 800);
        due.is("all kept with no wind", x.worst(), -6);
        x.bow(1, 20000, 100, 0, 800);
        due.is("kept(0) at a mast", x.kept(0), 1);
        due.is("kept(1)", x.kept(1), 0);
        due.is("kept(100) at a mast", x.kept(100), 1);
        due.is("kept(101)", x.kept(101), 1);
        due.is("kept(150)", x.kept(150), 1);
        due.is("kept(200) at a mast", x.kept(200), 1);
        due.is("kept(201)", x.kept(201), 0);
        due.is("kept(300) at a mast", x.kept(300), 1);
        due.is("spanKept(0)", x.spanKept(0), 0);
        due.is("spanKept(1)", x.spanKept(1), 1);
        due.is("spanKept(2)", x.spanKept(2), 0);
        due.is("worst()", x.worst(), 1);
        x.bow(0, 20000, 100, 1, 800);
        due.is("kept(0) with sway", x.kept(0), 0);
        due.is("worst() with sway", x.worst(), 0);
    }

    private static void keptOutside() {
        WireRow x = withMasts(10, 0);
        due.is("kept(10) with one mast", x.kept(10), -1);
        due.is("worst() with one mast", x.worst(), -6);
        due.is("spanKept(0) with one mast", x.spanKept(0), -1);
        WireRow y = withMasts(10, 0, 30, 0);
        due.is("kept(9)", y.kept(9), -1);
        due.is("kept(10)", y.kept(10), 1);
        due.is("kept(30)", y.kept(30), 1);
        due.is("kept(31)", y.kept(31), -1);
    }

    private static void worst() {
        WireRow x = new WireRow();
        x.length(4000);
        x.bend(1000, 3000, 1);
        x.peg(0, 1);
        x.peg(4000, 1);
        x.peg(2000, 1);
        due.is("worst() with no mast", x.worst(), -6);
        x.mast(0, 0);
        x.mast(2, 0);
        // before the bend the wire is ahead of the track by 2000 x
        x.bow(0, 1000, 400, 0, 800);
        due.is("worst() of a long span", x.worst(), 401);
        x.mast(1, 0);
        due.is("worst() of two spans", x.worst(), -6);
        // now by 500 x, and in the bend by 562500 less the square of x less 1250
        x.bow(0, 1000, 250, 0, 800);
        due.is("worst() just behind the bend's beginning", x.worst(), 1001);
        x.bow(0, 1000, 281, 0, 800);
        due.is("worst() far in the bend", x.worst(), 1228);
        x.bow(0, 1000, 282, 0, 800);
        due.is("worst() with room enough", x.worst(), -6);
        due.is("spanKept(0) is beyond the reach", x.spanKept(0), 0);
    }

    /** With a wind of 149 place 1 alone is too far out, by 1 of 62 times 2319 parts. */
    private static void keptByALittle() {
        for (int sign : new int[] {1, -1}) {
            WireRow x = new WireRow();
            x.bend(3, 54, 21 * sign);
            x.peg(0, 1);
            x.peg(62, 1);
            x.mast(0, 18 * sign);
            x.mast(1, -18 * sign);
            x.bow(149, 2319, 100, 82, 100);
            due.is("kept(1) by a little not", x.kept(1), 0);
            due.is("kept(2) by a little", x.kept(2), 1);
            due.is("worst() by a little", x.worst(), 1);
            due.is("spanKept(0) by a little not", x.spanKept(0), 0);
            x.bow(148, 2319, 100, 82, 100);
            due.is("kept(1) with less wind", x.kept(1), 1);
            due.is("worst() with less wind", x.worst(), -6);
            due.is("spanKept(0) with less wind", x.spanKept(0), 1);
        }
    }

    private static void worstAtTheLastMast() {
        WireRow x = withMasts(0, 0, 200, 101);
        x.bow(0, 1000, 100, 0, 800);
        due.is("kept(198)", x.kept(198), 1);
        due.is("kept(199)", x.kept(199), 0);
        x = withMasts(0, 0, 100, 101);
        x.bow(0, 1000, 100, 0, 800);
        due.is("kept(99)", x.kept(99), 1);
        due.is("worst() is the last place", x.worst(), 100);
        due.is("spanKept(0)", x.spanKept(0), 0);
    }

    private static void worstOfAllPegs() {
        WireRow x = new WireRow();
        for (int i = 0; i < 40; i++) x.peg(10 * i, 1);
        for (int i = 0; i < 40; i++) x.mast(i, i == 39 ? -101 : 100);
        x.bow(0, 1000, 101, 0, 20);
        due.is("worst() of 39 spans", x.worst(), -6);
        due.is("shortOne() of 39 spans", x.shortOne(), -6);
        due.is("spanKept(38)", x.spanKept(38), 1);
        due.is("spanKept(39)", x.spanKept(39), -1);
        due.is("kept(391)", x.kept(391), -1);
        x.bow(0, 1000, 100, 0, 20);
        due.is("worst() at the last of 40 masts", x.worst(), 390);
    }

    private static void topJustKept() {
        WireRow x = withMasts(0, 0, 400, 0);
        // BLOWN by 500 x 200 x 200 by 1000 in the middle: 20000
        x.bow(500, 1000, 100, 90, 800);
        due.is("spanKept(0) with just enough room", x.spanKept(0), 1);
        due.is("ways(0, 1, 0) with just enough room", x.ways(0, 1, 0), 9);
        due.is("worst() with just enough room", x.worst(), -6);
        x.bow(500, 1000, 100, 91, 800);
        due.is("spanKept(0) with less room", x.spanKept(0), 0);
        due.is("ways(0, 1, 0) with less room", x.ways(0, 1, 0), 0);
    }

    private static void spanBehindAllBends() {
        WireRow x = new WireRow();
        for (int i = 0; i < 8; i++) x.bend(20 * i, 20 * i + 20, i % 2 == 0 ? 50 : -50);
        x.peg(80, 1);
        x.peg(160, 1);
        x.peg(300, 1);
        for (int p = 0; p < 3; p++) x.mast(p, 0);
        // the wire meets the track at each bend's end; amid a bend it is off by 50 x 10 x 10
        due.is("off(90)", x.off(90, 0), 5000);
        due.is("off(100)", x.off(100, 0), 0);
        due.is("off(110)", x.off(110, 0), -5000);
        x.bow(0, 1000, 100, 98, 800);
        due.is("spanKept(0) in four bends", x.spanKept(0), 0);
        due.is("spanKept(1) behind eight bends", x.spanKept(1), 1);
        x.bow(0, 1000, 100, 97, 800);
        due.is("spanKept(0) in four bends with more room", x.spanKept(0), 1);
        x.clear();
        x.bow(0, 1000, 100, 98, 800);
        x.peg(80, 1);
        x.peg(160, 1);
        x.mast(0, 0);
        x.mast(1, 0);
        due.is("spanKept(0) where bends were", x.spanKept(0), 1);
        due.is("off(90) where bends were", x.off(90, 0), 0);
    }

    private static void spanKeptReach() {
        WireRow x = withMasts(0, 0, 20, 0, 41, 0);
        x.bow(0, 1000, 100, 0, 20);
        due.is("spanKept(0) with all its reach", x.spanKept(0), 1);
        due.is("spanKept(1) beyond its reach", x.spanKept(1), 0);
        due.is("worst() has no reach", x.worst(), -6);
        for (int i : new int[] {-1, 2, MIN, MAX}) {
            due.is("spanKept(" + i + ")", x.spanKept(i), -1);
        }
        x.bow(0, 1000, 100, 0, 21);
        due.is("spanKept(1) with all its reach", x.spanKept(1), 1);
    }

    private static void ways() {
        WireRow x = withMasts(0, 400, 20, 400, 50, 400);
        x.bow(0, 1000, 100, 0, 30);
        due.is("ways(0, 1, 100)", x.ways(0, 1, 100), 9);
        due.is("ways(0, 1, 101)", x.ways(0, 1, 101), 1);
        due.is("ways(0, 1, 0)", x.ways(0, 1, 0), 9);
        due.is("ways(1, 2, 400)", x.ways(1, 2, 400), 1);
        due.is("ways(0, 2, 0) beyond the reach", x.ways(0, 2, 0), 0);
        due.is("ways(0, 2, 100) beyond the reach", x.ways(0, 2, 100), 0);
        due.is("the masts are as they were", x.about(1, 3), 400);
        x.bow(1, 1000, 100, 0, 30);
        due.is("ways(0, 1, 100) in the wind", x.ways(0, 1, 100), 7);
        WireRow y = new WireRow();
        y.bend(0, 100, 50);
        y.peg(0, 1);
        y.peg(100, 1);
        y.bow(0, 1000, 100, 41, 800);
        // OFF of the track alone is 125000 in the middle, of 118000 that there is room for
        due.is("ways(0, 1, 0) in a bend", y.ways(0, 1, 0), 0);
        due.is("ways(0, 1, 4) in a bend", y.ways(0, 1, 4), 1);
        due.is("ways(0, 1, 7) in a bend, too much at 51", y.ways(0, 1, 7), 1);
        due.is("ways(0, 1, 8) in a bend", y.ways(0, 1, 8), 3);
    }

    private static void waysRefused() {
        WireRow x = withMasts(0, 0, 20, 0, 50, 0);
        for (int peg : new int[] {-1, 3, MIN, MAX}) {
            due.is("ways(" + peg + ", 1, 0)", x.ways(peg, 1, 0), -1);
            due.is("ways(1, " + peg + ", 0)", x.ways(1, peg, 0), -1);
            due.is("ways(1, " + peg + ", 401)", x.ways(1, peg, 401), -1);
        }
        for (int s : new int[] {-1, 401, MIN, MAX}) {
            due.is("ways(0, 1, " + s + ")", x.ways(0, 1, s), -2);
            due.is("ways(1, 0, " + s + ")", x.ways(1, 0, s), -2);
        }
        due.is("ways(1, 1, 0)", x.ways(1, 1, 0), -5);
        due.is("ways(2, 1, 0)", x.ways(2, 1, 0), -5);
    }

    /** Spans in bends and wind, with just as much room as the worst place needs, and a little less. */
    private static void spansAtTheEdge() {
        Random chance = new Random(41);
        for (int n = 0; n < 500; n++) {
            WireRow row = new WireRow();
            PlainRow plain = new PlainRow();
            int at = chance.nextInt(40);
            for (int i = chance.nextInt(6); i > 0; i--) {
                int end = at + 1 + chance.nextInt(60);
                int curve = chance.nextInt(41) - 20;
                due.is("bend", row.bend(at, end, curve), plain.bend(at, end, curve));
                at = end + chance.nextInt(2) * chance.nextInt(30);
            }
            int x0 = chance.nextInt(60);
            int x1 = x0 + 1 + chance.nextInt(250);
            row.peg(x0, 1);
            plain.peg(x0, 1);
            row.peg(x1, 1);
            plain.peg(x1, 1);
            int s = chance.nextInt(120);
            row.mast(0, s);
            plain.mast(0, s);
            row.mast(1, -s);
            plain.mast(1, -s);
            spanAtTheEdge(row, plain, chance, s);
        }
    }

    private static void spanAtTheEdge(WireRow row, PlainRow plain, Random chance, int s) {
        int wind = chance.nextInt(3) == 0 ? 0 : chance.nextInt(501);
        int pull = 1000 + chance.nextInt(3000);
        int tooLittle = 0;
        int enough = 1001;
        while (enough - tooLittle > 1) {
            int middle = (enough + tooLittle) / 2;
            setRoom(plain, wind, pull, middle);
            if (plain.spanKept(0) == 1) enough = middle; else tooLittle = middle;
        }
        for (int room = enough - 1; room <= enough + 1; room++) {
            if (room < 1 || room > 1000) continue;
            setRoom(plain, wind, pull, room);
            setRoom(row, wind, pull, room);
            String where = " with wind " + wind + ", pull " + pull + ", room " + room;
            due.is("spanKept(0)" + where, row.spanKept(0), plain.spanKept(0));
            due.is("worst()" + where, row.worst(), plain.worst());
            due.is("ways(0, 1, " + s + ")" + where, row.ways(0, 1, s), plain.ways(0, 1, s));
        }
    }

    private static void setRoom(PlainRow row, int wind, int pull, int room) {
        int bow = Math.max(100, room);
        due.is("bow", row.bow(wind, pull, bow, bow - room, 800), 1);
    }

    private static void setRoom(WireRow row, int wind, int pull, int room) {
        int bow = Math.max(100, room);
        due.is("bow", row.bow(wind, pull, bow, bow - room, 800), 1);
    }
}
