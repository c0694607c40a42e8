import java.util.Random;

/** Long runs of calls by chance (always the same ones), held against PlainRow: all promises. */
public final class OracleTest {
    private static final int RUNS = 150;
    /** So many calls are promised, and so many may come at once, with a choice or a new line. */
    private static final int CALLS = 512;
    private static final int AT_ONCE = 40;

    private final Due due;
    private final Random chance;
    private final int run;
    private WireRow row = new WireRow();
    private PlainRow plain = new PlainRow();
    /** So few that every choice can be tried. */
    private final int mostPegs;
    private int calls;

    private OracleTest(Due due, int run) {
        this.due = due;
        this.run = run;
        this.chance = new Random(7000 + run);
        this.mostPegs = 2 + chance.nextInt(5);
    }

    public static void main(String[] args) {
        Due due = new Due();
        for (int run = 0; run < RUNS; run++) {
            new OracleTest(due, run).go();
        }
        due.end();
    }

    private void go() {
        setUp();
        // Some kinds of call are left out by chance, so that each turn need not make one.
        for (int turn = 0; turn < 10 * CALLS && calls < CALLS - AT_ONCE; turn++) {
            call(chance.nextInt(30));
        }
        due.isTrue("run " + run + ": not too many calls: " + calls, calls <= CALLS);
    }

    private int from(int least, int most) {
        return least + chance.nextInt(most - least + 1);
    }

    /** Mostly as told, at times an end, and seldom beyond one. */
    private int some(int least, int most) {
        switch (chance.nextInt(40)) {
            case 0: return least;
            case 1: return most;
            case 2: return chance.nextInt(3) == 0 ? least - 1 : least;
            case 3: return chance.nextInt(3) == 0 ? most + 1 : most;
            case 4: return chance.nextInt(8) == 0 ? Integer.MIN_VALUE : least;
            case 5: return chance.nextInt(8) == 0 ? Integer.MAX_VALUE : most;
            default: return from(least, most);
        }
    }

    private void is(String call, long got, long want) {
        calls++;
        due.is("run " + run + ": " + call, got, want);
    }

    private static String told(String name, int... numbers) {
        StringBuilder text = new StringBuilder(name).append('(');
        for (int i = 0; i < numbers.length; i++) {
            text.append(i == 0 ? "" : ", ").append(numbers[i]);
        }
        return text.append(')').toString();
    }

    private void setUp() {
        int n = run % 10 == 0 ? from(100, 4000) : from(100, 350);
        is(told("length", n), row.length(n), plain.length(n));
        setBow();
        for (int i = from(0, 6); i > 0; i--) bend();
        for (int i = mostPegs; i > 0; i--) peg();
        for (int i = 0; i < mostPegs; i++) mast(chance.nextInt(3) > 0 ? i : chance.nextInt(mostPegs));
    }

    private void setBow() {
        int wind = chance.nextInt(3) == 0 ? 0 : some(0, 500);
        int pull = chance.nextInt(2) == 0 ? from(1000, 3000) : some(1000, 20000);
        int bow = chance.nextInt(2) == 0 ? from(100, 200) : some(100, 1000);
        int sway = some(0, 99);
        int reach = some(20, 800);
        is(told("bow", wind, pull, bow, sway, reach),
            row.bow(wind, pull, bow, sway, reach), plain.bow(wind, pull, bow, sway, reach));
    }

    private void bend() {
        int end = plain.told(5);
        int a = some(0, end);
        int b = chance.nextInt(3) == 0 ? some(0, end) : a + from(1, 60);
        int curve = some(-50, 50);
        is(told("bend", a, b, curve), row.bend(a, b, curve), plain.bend(a, b, curve));
    }

    private void peg() {
        if (plain.told(1) >= mostPegs) return;
        int x = some(0, plain.told(5));
        int price = chance.nextInt(2) == 0 ? from(1, 3) : some(1, 1000);
        is(told("peg", x, price), row.peg(x, price), plain.peg(x, price));
    }

    private void mast(int peg) {
        int side = some(-400, 400);
        is(told("mast", peg, side), row.mast(peg, side), plain.mast(peg, side));
    }

    private int pegNumber() {
        return some(0, Math.max(0, plain.told(1) - 1));
    }

    private int spanNumber() {
        return some(0, Math.max(0, plain.told(3) - 1));
    }

    private void call(int kind) {
        if (kind < 13) {
            callOfLine(kind);
        } else if (kind < 23) {
            callOfCarrier(kind);
        } else {
            callOfChoice(kind);
        }
    }

    private void callOfLine(int kind) {
        int x = some(0, plain.told(5));
        int what = some(0, 1);
        int peg = pegNumber();
        switch (kind) {
            case 0: {
                int n = some(100, 350);
                is(told("length", n), row.length(n), plain.length(n));
                break;
            }
            case 1: bend(); break;
            case 2: is(told("aside", x), row.aside(x), plain.aside(x)); break;
            case 3: peg(); break;
            case 4: mast(peg); break;
            case 5:
                if (chance.nextInt(3) == 0) is(told("fell", peg), row.fell(peg), plain.fell(peg));
                break;
            case 6:
                if (chance.nextInt(8) == 0) {
                    is("clear()", row.clear(), plain.clear());
                    setUp();
                }
                break;
            case 7: {
                int of = some(0, 3);
                is(told("about", peg, of), row.about(peg, of), plain.about(peg, of));
                break;
            }
            case 8: setBow(); break;
            case 9: is(told("off", x, what), row.off(x, what), plain.off(x, what)); break;
            case 10: is(told("kept", x), row.kept(x), plain.kept(x)); break;
            case 11: is("worst()", row.worst(), plain.worst()); break;
            default: {
                int i = spanNumber();
                is(told("spanKept", i), row.spanKept(i), plain.spanKept(i));
            }
        }
    }

    private void setCarrier() {
        int tension = some(1000, 20000);
        int own = some(1, 50);
        int droppers = some(1, 12);
        int load = some(1, 2000);
        int hang = some(500, 3000);
        is(told("carrier", tension, own, droppers, load, hang),
            row.carrier(tension, own, droppers, load, hang), plain.carrier(tension, own, droppers, load, hang));
    }

    private void callOfCarrier(int kind) {
        int l = some(1, 800);
        int i = some(0, plain.told(4) - 1);
        int what = some(0, 1);
        switch (kind) {
            case 13: case 14: setCarrier(); break;
            case 15: case 16: is(told("sag", l, i, what), row.sag(l, i, what), plain.sag(l, i, what)); break;
            case 17: case 18:
                is(told("dropper", l, i, what), row.dropper(l, i, what), plain.dropper(l, i, what));
                break;
            case 19: is(told("cut", l, i), row.cut(l, i), plain.cut(l, i)); break;
            case 20: is(told("bears", l, what), row.bears(l, what), plain.bears(l, what)); break;
            case 21: is("shortOne()", row.shortOne(), plain.shortOne()); break;
            default: {
                int half = some(0, 8000);
                int degrees = some(-40, 80);
                is(told("heat", half, degrees, what), row.heat(half, degrees, what), plain.heat(half, degrees, what));
            }
        }
    }

    private void callOfChoice(int kind) {
        int s = chance.nextInt(2) == 0 ? some(0, 400) : from(0, 40);
        switch (kind) {
            case 23: case 24: {
                int from = pegNumber();
                int to = chance.nextInt(2) == 0 ? from + 1 : pegNumber();
                is(told("ways", from, to, s), row.ways(from, to, s), plain.ways(from, to, s));
                break;
            }
            case 25: case 26:
                is(told("choose", s), row.choose(s), plain.choose(s));
                compareMasts();
                break;
            case 27: is("price()", row.price(), plain.price()); break;
            case 28: {
                int first = spanNumber();
                int last = chance.nextInt(2) == 0 ? first : spanNumber();
                int bar = chance.nextInt(3) == 0 ? some(100, 20000) : from(1000, 5000);
                is(told("bars", first, last, bar), row.bars(first, last, bar), plain.bars(first, last, bar));
                break;
            }
            default: {
                int what = some(0, 6);
                is(told("told", what), row.told(what), plain.told(what));
            }
        }
    }

    private void compareMasts() {
        for (int p = 0; p < plain.told(1); p++) {
            for (int what = 0; what <= 3; what++) {
                is(told("about", p, what), row.about(p, what), plain.about(p, what));
            }
        }
    }
}
