/** Promises 1 to 9: a new object, the line with its bends, pegs and masts. */
public final class LineTest {
    private static final long LOST_UNKNOWN = -1000000000000001L;
    private static final int MIN = Integer.MIN_VALUE;
    private static final int MAX = Integer.MAX_VALUE;

    private static final Due due = new Due();

    public static void main(String[] args) {
        newObject();
        newObjectsBow();
        newObjectsAreApart();
        length();
        lengthTakesBendsAway();
        bend();
        bendsLieApart();
        bendsFull();
        aside();
        asideOfSeveral();
        peg();
        pegsFull();
        mast();
        fell();
        clear();
        about();
        due.end();
    }

    private static WireRow withPegs(int... places) {
        WireRow x = new WireRow();
        for (int place : places) x.peg(place, 1);
        return x;
    }

    private static void told(WireRow x, int... want) {
        for (int what = 0; what < want.length; what++) {
            due.is("told(" + what + ")", x.told(what), want[what]);
        }
    }

    private static void newObject() {
        WireRow x = new WireRow();
        told(x, 0, 0, 0, 0, 4, 1000, 0);
        due.is("new price()", x.price(), 0);
        due.is("new worst()", x.worst(), -6);
        due.is("new shortOne()", x.shortOne(), -6);
        due.is("new aside(1000)", x.aside(1000), 0);
        // 10 x 100 x 100 x 7 and 2 x 100 x 100 x 16, by 8 x 4 x 4 x 10000
        due.isFraction("new sag(100, 0)", x.sag(100, 0, 0), x.sag(100, 0, 1), 51, 64);
        due.isFraction("new dropper(100, 0)", x.dropper(100, 0, 0), x.dropper(100, 0, 1), 1400 * 64 - 51, 64);
        due.isFraction("new bears(100)", x.bears(100, 0), x.bears(100, 1), 700, 1);
        x.peg(0, 1);
        x.peg(600, 1);
        x.peg(601, 1);
        x.mast(0, 400);
        x.mast(1, 400);
        due.is("BOW is 400, REACH 600, no WIND, no SWAY at first", x.spanKept(0), 1);
        x.fell(1);
        x.mast(2, 400);
        due.is("beyond the REACH at first", x.spanKept(0), 0);
        due.is("but all places are kept", x.worst(), -6);
    }

    private static void newObjectsBow() {
        WireRow x = new WireRow();
        x.bend(0, 2, 1);
        x.peg(0, 1);
        x.peg(2, 1);
        x.mast(0, 400);
        x.mast(1, 400);
        due.is("off(1), a little above the BOW at first", x.off(1, 0), 800001);
        due.is("kept(0)", x.kept(0), 1);
        due.is("kept(1)", x.kept(1), 0);
    }

    private static void newObjectsAreApart() {
        WireRow x = new WireRow();
        WireRow y = new WireRow();
        x.length(200);
        x.bend(0, 50, 1);
        x.peg(10, 5);
        x.mast(0, 1);
        x.carrier(1000, 1, 7, 1, 500);
        told(y, 0, 0, 0, 0, 4, 1000, 0);
        told(x, 1, 1, 1, 0, 7, 200, 0);
    }

    private static void length() {
        WireRow x = new WireRow();
        for (int n : new int[] {99, 4001, 0, -100, MIN, MAX}) {
            due.is("length(" + n + ")", x.length(n), -2);
        }
        due.is("told(5) after refusals", x.told(5), 1000);
        due.is("length(100)", x.length(100), 1000);
        due.is("length(4000)", x.length(4000), 100);
        due.is("length(4000) again", x.length(4000), 4000);
        due.is("told(5)", x.told(5), 4000);
        x.peg(4000, 1);
        due.is("length(500) with a peg", x.length(500), -3);
        due.is("length(99) with a peg", x.length(99), -2);
        due.is("told(5) with a peg", x.told(5), 4000);
        x.clear();
        due.is("length(500) after clear()", x.length(500), 4000);
    }

    private static void lengthTakesBendsAway() {
        WireRow x = new WireRow();
        x.bend(0, 10, 5);
        due.is("length(50)", x.length(50), -2);
        due.is("a refused length leaves the bends", x.told(0), 1);
        due.is("length(1000)", x.length(1000), 1000);
        due.is("the same length takes the bends away too", x.told(0), 0);
        due.is("aside(1000)", x.aside(1000), 0);
        due.is("bend(0, 10, 5) again", x.bend(0, 10, 5), 1);
    }

    private static void bend() {
        WireRow x = new WireRow();
        int[][] wrong = {{0, 0, 1}, {5, 4, 1}, {-1, 5, 1}, {0, 1001, 1}, {1000, 1001, 1}, {0, 5, 51}, {0, 5, -51},
            {MIN, MAX, 0}, {0, MAX, 0}, {MIN, 5, 0}, {0, 5, MIN}, {0, 5, MAX}, {1000, 1000, 1}};
        for (int[] w : wrong) {
            due.is("bend(" + w[0] + ", " + w[1] + ", " + w[2] + ")", x.bend(w[0], w[1], w[2]), -2);
        }
        due.is("told(0)", x.told(0), 0);
        due.is("bend(0, 1, 50)", x.bend(0, 1, 50), 1);
        due.is("bend(999, 1000, -50)", x.bend(999, 1000, -50), 2);
        due.is("bend(1, 2, 0)", x.bend(1, 2, 0), 3);
        x.peg(0, 1);
        due.is("bend(5, 6, 1) with a peg", x.bend(5, 6, 1), -3);
        due.is("bend(0, 1, 1) with a peg, over another", x.bend(0, 1, 1), -3);
        due.is("bend(6, 6, 1) with a peg", x.bend(6, 6, 1), -2);
        due.is("told(0)", x.told(0), 3);
    }

    private static void bendsLieApart() {
        WireRow x = new WireRow();
        x.bend(100, 200, 3);
        int[][] over = {{100, 200}, {99, 101}, {199, 201}, {120, 130}, {0, 1000}, {100, 101}, {199, 200}, {50, 200}};
        for (int[] o : over) {
            due.is("bend(" + o[0] + ", " + o[1] + ", 1)", x.bend(o[0], o[1], 1), -5);
        }
        due.is("bend(200, 300, 1) touches", x.bend(200, 300, 1), 2);
        due.is("bend(50, 100, 1) touches", x.bend(50, 100, 1), 3);
        due.is("bend(99, 100, 0) lies over one that came late", x.bend(99, 100, 0), -5);
        due.is("told(0)", x.told(0), 3);
    }

    private static void bendsFull() {
        WireRow x = new WireRow();
        for (int i = 0; i < 8; i++) {
            due.is("bend " + i, x.bend(10 * i, 10 * i + 10, i), i + 1);
        }
        due.is("a ninth bend", x.bend(500, 510, 1), -4);
        due.is("a ninth bend over another", x.bend(0, 10, 1), -4);
        due.is("a ninth bend outside", x.bend(0, 10, 51), -2);
        due.is("told(0)", x.told(0), 8);
        x.peg(0, 1);
        due.is("a ninth bend with a peg", x.bend(500, 510, 1), -3);
    }

    private static void aside() {
        WireRow x = new WireRow();
        x.bend(10, 30, -7);
        due.is("aside(10)", x.aside(10), 0);
        due.is("aside(11)", x.aside(11), -7);
        due.is("aside(30)", x.aside(30), -7 * 400);
        due.is("aside(31)", x.aside(31), -7 * (441 - 1));
        due.is("aside(1000)", x.aside(1000), -7 * (990 * 990 - 970 * 970));
        due.is("aside(0)", x.aside(0), 0);
        for (int place : new int[] {-1, 1001, MIN, MAX}) {
            due.is("aside(" + place + ")", x.aside(place), LOST_UNKNOWN);
        }
        x.length(4000);
        x.bend(0, 4000, 50);
        due.is("the farthest aside", x.aside(4000), 800000000L);
        x.length(4000);
        x.bend(0, 2000, -50);
        due.is("aside behind a bend", x.aside(4000), -600000000L);
        due.is("aside(4001)", x.aside(4001), LOST_UNKNOWN);
    }

    private static void asideOfSeveral() {
        WireRow x = new WireRow();
        x.bend(500, 600, 2);
        x.bend(100, 200, 3);
        x.bend(200, 300, -4);
        due.is("aside(150)", x.aside(150), 3 * 2500);
        due.is("aside(250)", x.aside(250), 3 * (22500 - 2500) - 4 * 2500);
        due.is("aside(550)", x.aside(550), 3 * (202500 - 122500) - 4 * (122500 - 62500) + 2 * 2500);
        due.is("aside(700)", x.aside(700),
            3 * (360000 - 250000) - 4 * (250000 - 160000) + 2 * (40000 - 10000));
    }

    private static void peg() {
        WireRow x = new WireRow();
        int[][] wrong = {{-1, 1}, {1001, 1}, {0, 0}, {0, 1001}, {0, -1}, {MIN, 1}, {MAX, 1}, {0, MIN}, {0, MAX}};
        for (int[] w : wrong) {
            due.is("peg(" + w[0] + ", " + w[1] + ")", x.peg(w[0], w[1]), -2);
        }
        due.is("peg(500, 7)", x.peg(500, 7), 0);
        due.is("peg(0, 1)", x.peg(0, 1), 0);
        due.is("peg(1000, 1000)", x.peg(1000, 1000), 2);
        due.is("peg(400, 9)", x.peg(400, 9), 1);
        due.is("peg(500, 8) again", x.peg(500, 8), -5);
        due.is("told(1)", x.told(1), 4);
        int[] places = {0, 400, 500, 1000};
        int[] prices = {1, 9, 7, 1000};
        for (int p = 0; p < 4; p++) {
            due.is("about(" + p + ", 0)", x.about(p, 0), places[p]);
            due.is("about(" + p + ", 1)", x.about(p, 1), prices[p]);
        }
        x.mast(1, 5);
        due.is("peg with a mast", x.peg(7, 7), -3);
        due.is("peg with a mast where there is one", x.peg(500, 7), -3);
        due.is("peg with a mast, outside", x.peg(1001, 7), -2);
        due.is("told(1)", x.told(1), 4);
        x.fell(1);
        due.is("peg with no mast any more", x.peg(7, 7), 1);
        due.is("the moved peg has no mast", x.about(2, 2), 0);
        due.is("the moved peg has no side", x.about(2, 3), 0);
    }

    private static void pegsFull() {
        WireRow x = new WireRow();
        for (int i = 0; i < 40; i++) {
            due.is("peg " + i, x.peg(1000 - i, 1), 0);
        }
        due.is("a peg too many", x.peg(0, 1), -4);
        due.is("a peg too many where there is one", x.peg(1000, 1), -4);
        due.is("a peg too many, outside", x.peg(-1, 1), -2);
        x.mast(39, 0);
        due.is("a peg too many with a mast", x.peg(0, 1), -3);
        due.is("told(1)", x.told(1), 40);
        due.is("mast(40, 0)", x.mast(40, 0), -1);
        for (int i = 0; i < 40; i++) {
            due.is("mast(" + i + ", 1)", x.mast(i, 1), i == 39 ? 40 : i + 2);
        }
        told(x, 0, 40, 40, 39, 4, 1000, 39);
    }

    private static void mast() {
        WireRow x = withPegs(0, 10, 20);
        for (int peg : new int[] {-1, 3, MIN, MAX}) {
            due.is("mast(" + peg + ", 0)", x.mast(peg, 0), -1);
            due.is("mast(" + peg + ", 401)", x.mast(peg, 401), -1);
        }
        for (int side : new int[] {-401, 401, MIN, MAX}) {
            due.is("mast(0, " + side + ")", x.mast(0, side), -2);
        }
        due.is("told(2)", x.told(2), 0);
        due.is("mast(2, -400)", x.mast(2, -400), 1);
        due.is("mast(0, 400)", x.mast(0, 400), 2);
        due.is("mast(2, 3) anew", x.mast(2, 3), 2);
        due.is("mast(2, 401) refused", x.mast(2, 401), -2);
        due.is("about(2, 3)", x.about(2, 3), 3);
        due.is("about(0, 3)", x.about(0, 3), 400);
        told(x, 0, 3, 2, 1, 4, 1000, 20);
        due.is("mast(1, 0)", x.mast(1, 0), 3);
        told(x, 0, 3, 3, 2, 4, 1000, 20);
    }

    private static void fell() {
        WireRow x = withPegs(0, 10, 20);
        for (int peg : new int[] {-1, 3, MIN, MAX}) {
            due.is("fell(" + peg + ")", x.fell(peg), -1);
        }
        due.is("fell(0) with no mast", x.fell(0), -3);
        x.mast(0, 1);
        x.mast(1, 2);
        x.mast(2, 3);
        due.is("fell(1)", x.fell(1), 2);
        due.is("fell(1) again", x.fell(1), -3);
        due.is("about(1, 2)", x.about(1, 2), 0);
        due.is("about(1, 3)", x.about(1, 3), 0);
        told(x, 0, 3, 2, 1, 4, 1000, 20);
        due.is("fell(0)", x.fell(0), 1);
        told(x, 0, 3, 1, 0, 4, 1000, 0);
        due.is("fell(2)", x.fell(2), 0);
        told(x, 0, 3, 0, 0, 4, 1000, 0);
    }

    private static void clear() {
        WireRow x = new WireRow();
        due.is("clear() of nothing", x.clear(), 0);
        x.length(300);
        x.bend(0, 10, 1);
        x.carrier(10000, 10, 6, 100, 1400);
        x.bow(0, 10000, 100, 0, 25);
        x.peg(3, 3);
        x.peg(4, 4);
        x.mast(1, 9);
        x.mast(0, 8);
        due.is("clear()", x.clear(), 2);
        told(x, 0, 0, 0, 0, 6, 300, 0);
        due.is("price()", x.price(), 0);
        due.is("aside(300)", x.aside(300), 0);
        due.is("kept(3)", x.kept(3), -1);
        due.is("about(0, 0)", x.about(0, 0), -1);
        due.is("peg(0, 1)", x.peg(0, 1), 0);
        due.is("peg(26, 1)", x.peg(26, 1), 1);
        due.is("no mast is left at a new peg", x.about(0, 2), 0);
        due.is("nor its side", x.about(1, 3), 0);
        due.is("mast(0, 101)", x.mast(0, 101), 1);
        due.is("mast(1, 0)", x.mast(1, 0), 2);
        due.is("BOW stays", x.kept(0), 0);
        x.mast(0, 0);
        due.is("REACH stays", x.spanKept(0), 0);
        due.is("clear() again", x.clear(), 2);
        due.is("clear() once more", x.clear(), 0);
    }

    private static void about() {
        WireRow x = withPegs(10, 30);
        x.mast(1, -2);
        for (int peg : new int[] {-1, 2, MIN, MAX}) {
            due.is("about(" + peg + ", 0)", x.about(peg, 0), -1);
            due.is("about(" + peg + ", 4)", x.about(peg, 4), -1);
        }
        for (int what : new int[] {-1, 4, MIN, MAX}) {
            due.is("about(0, " + what + ")", x.about(0, what), -1000);
        }
        int[][] want = {{10, 1, 0, 0}, {30, 1, 1, -2}};
        for (int p = 0; p < 2; p++) {
            for (int what = 0; what < 4; what++) {
                due.is("about(" + p + ", " + what + ")", x.about(p, what), want[p][what]);
            }
        }
    }
}
