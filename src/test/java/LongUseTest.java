import com.sun.management.ThreadMXBean;
import java.lang.management.ManagementFactory;

/**
 * "An object is used for at most 512 calls after it has been made": to the last of them the same
 * question has the same answer, what was taken away can come again, and nothing is heaped up.
 */
public final class LongUseTest {
    private static final int CALLS = 512;
    /** One table for 14 droppers has 16384 ints; all that grow up to it have less than as many more. */
    private static final long MOST_BYTES = 200_000;

    private static final Due due = new Due();

    public static void main(String[] args) {
        asksOfTheLine();
        asksOfTheCarrier();
        asksOfChoices();
        refusalsAgainAndAgain();
        pegsComeAndGo();
        bendsComeAndGo();
        mastsComeAndGo();
        settingsChange();
        barsOfFewAndMany();
        callsMakeNothing();
        due.end();
    }

    /** How many calls have been made on the object of row(). */
    private static final int ROW_MADE = 91;

    /** The longest line with all bends, pegs and masts: 1 and 8 and 40 and 40 and 2 calls. */
    private static WireRow row() {
        WireRow x = new WireRow();
        x.length(4000);
        for (int i = 0; i < 8; i++) x.bend(500 * i, 500 * i + 400, i % 2 == 0 ? 3 : -2);
        for (int i = 0; i < 40; i++) x.peg(100 * i + i, 1 + i * i % 7);
        for (int i = 0; i < 40; i++) x.mast(i, i % 2 == 0 ? 20 : -20);
        x.bow(30, 10000, 400, 20, 350);
        x.carrier(10000, 10, 12, 100, 1400);
        return x;
    }

    private static void alikeTo512(String call, Twins.Call made) {
        due.by("What it is: 512 calls");
        WireRow x = row();
        long first = made.on(x);
        long wrong = 0;
        for (int n = ROW_MADE + 1; n < CALLS; n++) {
            if (made.on(x) != first) wrong++;
        }
        due.is(call + ": answers unlike the first", wrong, 0);
        due.is(call + ": of a new object", made.on(row()), first);
    }

    private static void asksOfTheLine() {
        alikeTo512("aside(3999)", x -> x.aside(3999));
        alikeTo512("mast(39, 5)", x -> x.mast(39, 5));
        alikeTo512("about(39, 0)", x -> x.about(39, 0));
        alikeTo512("bow()", x -> x.bow(30, 10000, 400, 20, 350));
        alikeTo512("off(3777, 0)", x -> x.off(3777, 0));
        alikeTo512("off(3777, 1)", x -> x.off(3777, 1));
        alikeTo512("kept(3777)", x -> x.kept(3777));
        alikeTo512("worst()", WireRow::worst);
        alikeTo512("spanKept(38)", x -> x.spanKept(38));
        alikeTo512("ways(30, 33, 50)", x -> x.ways(30, 33, 50));
    }

    private static void asksOfTheCarrier() {
        alikeTo512("carrier()", x -> x.carrier(10000, 10, 12, 100, 1400));
        alikeTo512("sag(800, 11, 0)", x -> x.sag(800, 11, 0));
        alikeTo512("dropper(800, 11, 1)", x -> x.dropper(800, 11, 1));
        alikeTo512("cut(800, 5)", x -> x.cut(800, 5));
        alikeTo512("bears(800, 0)", x -> x.bears(800, 0));
        alikeTo512("shortOne()", WireRow::shortOne);
        alikeTo512("heat(8000, 80, 0)", x -> x.heat(8000, 80, 0));
    }

    private static void asksOfChoices() {
        alikeTo512("choose(50)", x -> x.choose(50));
        alikeTo512("price()", WireRow::price);
        alikeTo512("bars(38, 38, 4000)", x -> x.bars(38, 38, 4000));
        alikeTo512("told(6)", x -> x.told(6));
    }

    private static void refusalsAgainAndAgain() {
        alikeTo512("length(100)", x -> x.length(100));
        alikeTo512("bend(0, 1, 1)", x -> x.bend(0, 1, 1));
        alikeTo512("peg(50, 1)", x -> x.peg(50, 1));
        alikeTo512("fell(40)", x -> x.fell(40));
        alikeTo512("choose(401)", x -> x.choose(401));
        alikeTo512("bars(0, 1, 4000)", x -> x.bars(0, 1, 4000));
    }

    private static void pegsComeAndGo() {
        due.by("8: all PEGS go, to the 512th call");
        WireRow x = new WireRow();
        int pegs = 0;
        for (int n = 0; n < CALLS - 1; n++) {
            if (pegs == 40) {
                due.is("clear()", x.clear(), 40);
                pegs = 0;
            } else {
                due.is("peg " + pegs, x.peg(1000 - 7 * pegs, 1), 0);
                pegs++;
            }
        }
        due.is("told(1), the 512th call", x.told(1), pegs);
    }

    private static void bendsComeAndGo() {
        due.by("2: no BENDS then, to the 512th call");
        WireRow x = new WireRow();
        int bends = 0;
        for (int n = 0; n < CALLS - 1; n++) {
            if (bends == 8) {
                due.is("length(1000)", x.length(1000), 1000);
                bends = 0;
            } else {
                due.is("bend " + bends, x.bend(900 - 100 * bends, 1000 - 100 * bends, 2), bends + 1);
                bends++;
            }
        }
        // the bends are one of 2 from some place on to the end
        due.is("aside(1000), the 512th call", x.aside(1000), 2L * (100 * bends) * (100 * bends));
    }

    private static void mastsComeAndGo() {
        due.by("6, 7: how many MASTS, to the 512th call");
        WireRow x = Scenes.fortyPegs();
        for (int n = 40; n < CALLS - 2; n += 2) {
            int peg = n % 40;
            due.is("mast(" + peg + ", 3)", x.mast(peg, 3), 1);
            due.is("fell(" + peg + ")", x.fell(peg), 0);
        }
        due.is("told(2)", x.told(2), 0);
    }

    private static void settingsChange() {
        due.by("10, 16: to the 512th call");
        WireRow x = Scenes.withMasts(0, 0, 130, 0);
        for (int n = 5; n < CALLS - 4; n += 4) {
            int pull = n % 8 == 5 ? 1056 : 1057;
            due.is("bow()", x.bow(500, pull, 100, 99, 800), 1);
            due.is("spanKept(0)", x.spanKept(0), pull == 1057 ? 1 : 0);
            int droppers = 1 + n % 12;
            due.is("carrier()", x.carrier(1000, 8, droppers, 4, 500), 1);
            due.is("told(4)", x.told(4), droppers);
        }
    }

    private static void barsOfFewAndMany() {
        due.by("25: the fewest, to the 512th call");
        WireRow x = Scenes.withSpans(14, 10);
        x.carrier(20000, 1, 1, 1, 500);
        for (int n = 32; n < CALLS; n++) {
            int last = n % 14;
            due.is("bars(0, " + last + ", 1000)", x.bars(0, last, 1000), (last + 2) / 2);
        }
    }

    private static void callsMakeNothing() {
        ThreadMXBean threads = (ThreadMXBean) ManagementFactory.getThreadMXBean();
        long self = Thread.currentThread().getId();
        WireRow x = Scenes.withSpans(39, 100);
        x.carrier(20000, 1, 1, 1, 500);
        long before = threads.getThreadAllocatedBytes(self);
        int mostBars = 0;
        for (int n = 82; n < 282; n++) mostBars = Math.max(mostBars, x.bars(0, (n - 82) % 14, 1000));
        for (int n = 282; n + 3 < CALLS; n += 4) {
            x.worst();
            x.choose(n % 401);
            x.ways(0, 8, 50);
            x.mast(n % 40, 0);
        }
        long made = threads.getThreadAllocatedBytes(self) - before;
        due.by("the room of a run");
        due.isTrue("the dearest calls make little: " + made + " bytes", made <= MOST_BYTES);
        due.is("14 droppers were among them", mostBars, 7);
    }
}
