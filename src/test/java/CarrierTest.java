/** Promises 16 to 22: the carrier, its droppers, and heat. */
public final class CarrierTest {
    private static final long LOST_UNKNOWN = -1000000000000001L;
    private static final long LOST_OUTSIDE = -1000000000000002L;
    private static final int MIN = Integer.MIN_VALUE;
    private static final int MAX = Integer.MAX_VALUE;

    private static final Due due = new Due();

    public static void main(String[] args) {
        carrier();
        carrierRefusedChangesNothing();
        sagOfOneDropper();
        sagOfThreeDroppers();
        refusals();
        cutGoesUp();
        bears();
        shortOne();
        shortOneAtTheEdge();
        heat();
        due.end();
    }

    private static void sag(WireRow x, int length, int i, long upper, long lower) {
        String call = "sag(" + length + ", " + i + ")";
        due.isFraction(call, x.sag(length, i, 0), x.sag(length, i, 1), upper, lower);
    }

    private static void dropper(WireRow x, int length, int i, long upper, long lower) {
        String call = "dropper(" + length + ", " + i + ")";
        due.isFraction(call, x.dropper(length, i, 0), x.dropper(length, i, 1), upper, lower);
    }

    private static void carrier() {
        WireRow x = new WireRow();
        int[] least = {1000, 1, 1, 1, 500};
        int[] most = {20000, 50, 12, 2000, 3000};
        due.is("carrier with all least", x.carrier(1000, 1, 1, 1, 500), 1);
        due.is("told(4)", x.told(4), 1);
        due.is("carrier with all most", x.carrier(20000, 50, 12, 2000, 3000), 1);
        due.is("told(4)", x.told(4), 12);
        for (int i = 0; i < 5; i++) {
            for (int wrong : new int[] {least[i] - 1, most[i] + 1, MIN, MAX}) {
                int[] a = least.clone();
                a[i] = wrong;
                due.is("carrier with number " + i + " " + wrong, x.carrier(a[0], a[1], a[2], a[3], a[4]), -2);
            }
        }
        due.is("told(4) after refusals", x.told(4), 12);
    }

    private static void carrierRefusedChangesNothing() {
        WireRow x = new WireRow();
        due.is("carrier(20000, 50, 1, 2000, 3001)", x.carrier(20000, 50, 1, 2000, 3001), -2);
        due.is("carrier(999, 50, 1, 2000, 3000)", x.carrier(999, 50, 1, 2000, 3000), -2);
        sag(x, 100, 0, 51, 64);
        dropper(x, 100, 0, 1400 * 64 - 51, 64);
    }

    private static void sagOfOneDropper() {
        WireRow x = new WireRow();
        x.carrier(1000, 8, 1, 4, 500);
        // in the middle: 8 l l / 8 and 4 l / 4, by 1000
        sag(x, 1, 0, 1, 500);
        sag(x, 100, 0, 101, 10);
        sag(x, 800, 0, 3204, 5);
        dropper(x, 100, 0, 4899, 10);
        dropper(x, 800, 0, 2500 - 3204, 5);
        due.is("cut(100, 0)", x.cut(100, 0), 490);
        due.is("cut(800, 0)", x.cut(800, 0), -140);
        x.carrier(1000, 8, 1, 4, 3000);
        sag(x, 624, 0, 390, 1);
        dropper(x, 624, 0, 2610, 1);
        due.is("cut(624, 0)", x.cut(624, 0), 2610);
    }

    private static void sagOfThreeDroppers() {
        WireRow x = new WireRow();
        x.carrier(2000, 6, 3, 30, 1000);
        // at 10, 30, 50 of 60. OWN: 3 x 10 x 50, 3 x 30 x 30, the same as the first
        // LOADS at the first: 30 x (10 x 50 and 10 x 30 and 10 x 10) by 60
        // so 1950 by 2000
        sag(x, 60, 0, 39, 40);
        // LOADS at the second: 30 x (10 x 30 and 30 x 30 and 30 x 10) by 60: so 3450 by 2000
        sag(x, 60, 1, 69, 40);
        sag(x, 60, 2, 39, 40);
    }

    private static void refusals() {
        WireRow x = new WireRow();
        for (int i : new int[] {-1, 4, MIN, MAX}) {
            due.is("sag(100, " + i + ", 0)", x.sag(100, i, 0), LOST_UNKNOWN);
            due.is("sag(0, " + i + ", 0)", x.sag(0, i, 0), LOST_UNKNOWN);
            due.is("dropper(100, " + i + ", 0)", x.dropper(100, i, 0), LOST_UNKNOWN);
            due.is("dropper(100, " + i + ", 2)", x.dropper(100, i, 2), LOST_UNKNOWN);
            due.is("cut(100, " + i + ")", x.cut(100, i), -1000001);
            due.is("cut(801, " + i + ")", x.cut(801, i), -1000001);
        }
        for (int length : new int[] {0, 801, -1, MIN, MAX}) {
            due.is("sag(" + length + ", 0, 0)", x.sag(length, 0, 0), LOST_OUTSIDE);
            due.is("dropper(" + length + ", 3, 1)", x.dropper(length, 3, 1), LOST_OUTSIDE);
            due.is("cut(" + length + ", 3)", x.cut(length, 3), -1000002);
            due.is("bears(" + length + ", 0)", x.bears(length, 0), LOST_OUTSIDE);
        }
        for (int what : new int[] {-1, 2, MIN, MAX}) {
            due.is("sag(1, 0, " + what + ")", x.sag(1, 0, what), LOST_OUTSIDE);
            due.is("dropper(800, 3, " + what + ")", x.dropper(800, 3, what), LOST_OUTSIDE);
            due.is("bears(800, " + what + ")", x.bears(800, what), LOST_OUTSIDE);
            due.is("heat(1, 1, " + what + ")", x.heat(1, 1, what), LOST_OUTSIDE);
        }
    }

    private static void cutGoesUp() {
        WireRow x = new WireRow();
        x.carrier(1000, 8, 1, 4, 500);
        // LENGTH is 500 less (l l and l) by 1000
        due.is("cut(1, 0) of 499.998", x.cut(1, 0), 500);
        due.is("cut(31, 0) of 499.008", x.cut(31, 0), 500);
        due.is("cut(32, 0) of 498.944", x.cut(32, 0), 499);
        due.is("cut(124, 0) of 484.5", x.cut(124, 0), 485);
        due.is("cut(707, 0) of -0.556", x.cut(707, 0), 0);
        due.is("cut(708, 0) of -1.972", x.cut(708, 0), -1);
        due.is("cut(706, 0) of 0.858", x.cut(706, 0), 1);
    }

    private static void bears() {
        WireRow x = new WireRow();
        x.carrier(10000, 3, 5, 7, 1400);
        due.isFraction("bears(1)", x.bears(1, 0), x.bears(1, 1), 19, 1);
        due.isFraction("bears(2)", x.bears(2, 0), x.bears(2, 1), 41, 2);
        due.isFraction("bears(800)", x.bears(800, 0), x.bears(800, 1), 2435, 2);
        x.carrier(1000, 50, 12, 2000, 500);
        due.isFraction("bears(800), the most", x.bears(800, 0), x.bears(800, 1), 32000, 1);
    }

    private static void shortOne() {
        WireRow x = new WireRow();
        x.length(4000);
        x.carrier(1000, 8, 3, 1, 500);
        due.is("shortOne() with no span", x.shortOne(), -6);
        x.peg(0, 1);
        x.peg(100, 1);
        x.peg(700, 1);
        x.peg(4000, 1);
        x.mast(0, 0);
        due.is("shortOne() with one mast", x.shortOne(), -6);
        x.mast(1, 0);
        due.is("shortOne() of a short span", x.shortOne(), -6);
        x.mast(2, 0);
        // SAG of 600 by OWN: at the ends 4 x 100 x 500, in the middle 4 x 300 x 300, by 1000
        due.is("shortOne() with 140 in the middle", x.shortOne(), -6);
        x.carrier(1000, 10, 3, 1, 500);
        due.is("shortOne() with 50 in the middle", x.shortOne(), 101);
        x.fell(2);
        x.mast(3, 0);
        due.is("shortOne() of a span longer than 800", x.shortOne(), 100);
        x.mast(2, 0);
        x.carrier(1000, 8, 3, 1, 500);
        due.is("shortOne() in the third span", x.shortOne(), 200);
        x.fell(0);
        due.is("shortOne() in the second span", x.shortOne(), 100);
    }

    private static void shortOneAtTheEdge() {
        WireRow x = new WireRow();
        x.peg(0, 1);
        x.peg(500, 1);
        x.mast(0, 0);
        x.mast(1, 0);
        // SAG is l l by 1000 and 300 l by 1000: 400 of 500
        x.carrier(1000, 8, 1, 1200, 500);
        dropper(x, 500, 0, 100, 1);
        due.is("shortOne() with 100", x.shortOne(), -6);
        x.carrier(1000, 8, 1, 1201, 500);
        due.is("cut up it is 100 still", x.cut(500, 0), 100);
        due.is("shortOne() with a little less", x.shortOne(), 0);
    }

    private static void heat() {
        WireRow x = new WireRow();
        due.isFraction("heat(8000, 80)", x.heat(8000, 80, 0), x.heat(8000, 80, 1), 952, 1);
        due.isFraction("heat(8000, -40)", x.heat(8000, -40, 0), x.heat(8000, -40, 1), -680, 1);
        due.isFraction("heat(1, 11)", x.heat(1, 11, 0), x.heat(1, 11, 1), 17, 10000);
        due.isFraction("heat(1, 9)", x.heat(1, 9, 0), x.heat(1, 9, 1), -17, 10000);
        due.isFraction("heat(5, 30)", x.heat(5, 30, 0), x.heat(5, 30, 1), 17, 100);
        due.isFraction("heat(8000, 10)", x.heat(8000, 10, 0), x.heat(8000, 10, 1), 0, 1);
        due.isFraction("heat(0, 80)", x.heat(0, 80, 0), x.heat(0, 80, 1), 0, 1);
        for (int length : new int[] {-1, 8001, MIN, MAX}) {
            due.is("heat(" + length + ", 10, 0)", x.heat(length, 10, 0), LOST_OUTSIDE);
        }
        for (int degrees : new int[] {-41, 81, MIN, MAX}) {
            due.is("heat(1, " + degrees + ", 0)", x.heat(1, degrees, 0), LOST_OUTSIDE);
        }
    }
}
