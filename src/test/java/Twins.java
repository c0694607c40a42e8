import java.util.ArrayList;
import java.util.List;
import java.util.function.Supplier;

/**
 * "They change nothing": an object on which a call was refused must go on just as its twin does, on
 * which that call was not made. A scene makes the object anew for each call, so that none is used
 * for more calls than the document promises.
 */
final class Twins {
    /** A call on an object. */
    interface Call {
        long on(WireRow x);
    }

    /** A call on an object, one number of which is tried. */
    interface CallWith {
        long on(WireRow x, int n);
    }

    /** An object with 40 masts, made by some 100 calls, may still be asked as much as this. */
    private static final int MOST_ASKED = 400;
    private static final int STEPS = 16;

    private final Due due;

    Twins(Due due) {
        this.due = due;
    }

    void refused(String call, Supplier<WireRow> scene, Call made, long refusal) {
        WireRow x = scene.get();
        due.is(call, made.on(x), refusal);
        alike(call + " is refused", x, scene.get());
    }

    /** Two objects must answer alike from here on. */
    void alike(String when, WireRow x, WireRow twin) {
        List<String> got = goesOn(x);
        List<String> want = goesOn(twin);
        due.is(when + ": how much can be asked then", got.size(), want.size());
        for (int i = 0; i < Math.min(got.size(), want.size()); i++) {
            if (!got.get(i).equals(want.get(i))) {
                due.fail(when + ", but then " + got.get(i) + ", and of its twin " + want.get(i));
                return;
            }
        }
    }

    /** The last numbers that are taken, with what is answered then, and the first that are refused. */
    void bounds(String call, Supplier<WireRow> scene, CallWith made, int[] taken, long[] answers, long refusal) {
        for (int i = 0; i < taken.length; i++) {
            due.is(call + " with " + taken[i], made.on(scene.get(), taken[i]), answers[i]);
        }
        beyond(call, scene, made, taken[0], taken[taken.length - 1], refusal);
    }

    /** The first numbers that are refused at both sides, and those where an int wraps around. */
    void beyond(String call, Supplier<WireRow> scene, CallWith made, int least, int most, long refusal) {
        for (int n : new int[] {least - 1, most + 1, Integer.MIN_VALUE, Integer.MAX_VALUE}) {
            refused(call + " with " + n, scene, x -> made.on(x, n), refusal);
        }
    }

    private List<String> goesOn(WireRow x) {
        List<String> tape = new ArrayList<>();
        askCounts(x, tape);
        askPlaces(x, tape);
        askPegs(x, tape);
        askCarrier(x, tape);
        askChanges(x, tape);
        due.isTrue("not too much is asked: " + tape.size(), tape.size() <= MOST_ASKED);
        return tape;
    }

    private static void put(List<String> tape, String call, long answer) {
        tape.add(call + " = " + answer);
    }

    private static void askCounts(WireRow x, List<String> tape) {
        for (int what = 0; what <= 6; what++) put(tape, "told(" + what + ")", x.told(what));
        put(tape, "price()", x.price());
        put(tape, "worst()", x.worst());
        put(tape, "shortOne()", x.shortOne());
    }

    private static void askPlaces(WireRow x, List<String> tape) {
        int end = x.told(5);
        for (int i = 0; i <= STEPS; i++) {
            int place = end * i / STEPS;
            put(tape, "aside(" + place + ")", x.aside(place));
            put(tape, "off(" + place + ", 0)", x.off(place, 0));
            put(tape, "off(" + place + ", 1)", x.off(place, 1));
            put(tape, "kept(" + place + ")", x.kept(place));
        }
    }

    private static void askPegs(WireRow x, List<String> tape) {
        int pegs = x.told(1);
        int spans = x.told(3);
        for (int p = 0; p < pegs; p++) {
            for (int what = 0; what <= 3; what++) put(tape, "about(" + p + ", " + what + ")", x.about(p, what));
        }
        for (int i = 0; i < spans; i++) put(tape, "spanKept(" + i + ")", x.spanKept(i));
        put(tape, "ways(0, 1, 50)", x.ways(0, 1, 50));
        put(tape, "ways(0, last, 50)", x.ways(0, pegs - 1, 50));
        put(tape, "bars(0, 0, 3000)", x.bars(0, 0, 3000));
    }

    private static void askCarrier(WireRow x, List<String> tape) {
        int last = x.told(4) - 1;
        for (int what = 0; what <= 1; what++) {
            put(tape, "sag(700, 0, " + what + ")", x.sag(700, 0, what));
            put(tape, "sag(50, last, " + what + ")", x.sag(50, last, what));
            put(tape, "dropper(700, 0, " + what + ")", x.dropper(700, 0, what));
            put(tape, "bears(700, " + what + ")", x.bears(700, what));
        }
        put(tape, "cut(700, last)", x.cut(700, last));
    }

    /** Changes come last: what they find tells of what can't be asked otherwise. */
    private static void askChanges(WireRow x, List<String> tape) {
        put(tape, "choose(50)", x.choose(50));
        for (int p = 0; p < x.told(1); p++) put(tape, "about(" + p + ", 3) then", x.about(p, 3));
        put(tape, "clear()", x.clear());
        put(tape, "told(0) when cleared", x.told(0));
        put(tape, "peg(0, 1)", x.peg(0, 1));
        put(tape, "peg(30, 1)", x.peg(30, 1));
        put(tape, "mast(0, 1)", x.mast(0, 1));
        put(tape, "mast(1, 1)", x.mast(1, 1));
        put(tape, "spanKept(0) when cleared", x.spanKept(0));
        put(tape, "worst() when cleared", x.worst());
        put(tape, "clear() again", x.clear());
        put(tape, "length(100)", x.length(100));
    }
}
