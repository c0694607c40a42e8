/**
 * A wire above the rails: masts along a line with bends, a contact wire blown by wind, a carrying
 * wire with droppers, the cheapest masts, and droppers cut from the fewest bars.
 */
public final class WireRow {
    public static final int NONE = -6, UNKNOWN = -1, OUTSIDE = -2, STATE = -3, FULL = -4, NO = -5;
    public static final long LOST = -1000000000000000L;

    /** What about() answers in place of OUTSIDE, because a side may be -2 itself. */
    private static final int ABOUT_OUTSIDE = -1000;
    /** What cut() tells a refusal below, because a dropper's length may be under 0. */
    private static final int CUT_LOST = -1000000;
    /** The helpers that look for a refusal answer this if they find none. */
    private static final int FINE = 0;

    private static final int MOST_BENDS = 8;
    private static final int MOST_PEGS = 40;
    private static final int MOST_PIECES = 14;
    private static final int MOST_SIDE = 400;
    private static final int MOST_CARRIER = 800;
    private static final int LONG_ENOUGH = 100;
    /** Places aside of the line are counted in so many parts of a millimetre. */
    private static final int PARTS = 2000;

    private final Track track;
    private final PegRow pegs;
    private final Sweep sweep;
    private final Span span;
    private final Carrier wire;
    private final Chooser chooser;
    private final Saw saw;

    public WireRow() {
        track = new Track();
        pegs = new PegRow();
        sweep = new Sweep();
        span = new Span(track, pegs, sweep);
        wire = new Carrier();
        chooser = new Chooser(pegs, span);
        saw = new Saw();
    }

    // ---- 1 the line

    public int length(int n) {
        if (!within(n, 100, 4000)) {
            return OUTSIDE;
        }
        if (pegs.count > 0) {
            return STATE;
        }
        int was = track.end;
        track.end = n;
        track.bends = 0;
        return was;
    }

    public int bend(int a, int b, int curve) {
        if (a < 0 || a >= b || b > track.end || !within(curve, -50, 50)) {
            return OUTSIDE;
        }
        if (pegs.count > 0) {
            return STATE;
        }
        if (track.bends >= MOST_BENDS) {
            return FULL;
        }
        if (track.isBentWithin(a, b)) {
            return NO;
        }
        track.insert(a, b, curve);
        return track.bends;
    }

    public long aside(int x) {
        return track.has(x) ? track.asideOf(x) : LOST + UNKNOWN;
    }

    public int peg(int x, int price) {
        if (!track.has(x) || !within(price, 1, 1000)) {
            return OUTSIDE;
        }
        if (pegs.masts > 0) {
            return STATE;
        }
        if (pegs.count >= MOST_PEGS) {
            return FULL;
        }
        int number = pegs.countBefore(x);
        if (number < pegs.count && pegs.place[number] == x) {
            return NO;
        }
        pegs.insert(number, x, price, track.asideOf(x));
        return number;
    }

    public int mast(int peg, int side) {
        if (!pegs.has(peg)) {
            return UNKNOWN;
        }
        if (!within(side, -MOST_SIDE, MOST_SIDE)) {
            return OUTSIDE;
        }
        pegs.raise(peg, side);
        pegs.listMasts();
        return pegs.masts;
    }

    public int fell(int peg) {
        if (!pegs.has(peg)) {
            return UNKNOWN;
        }
        if (!pegs.stands[peg]) {
            return STATE;
        }
        pegs.takeDown(peg);
        pegs.listMasts();
        return pegs.masts;
    }

    public int clear() {
        int were = pegs.count;
        pegs.count = 0;
        pegs.masts = 0;
        track.bends = 0;
        return were;
    }

    public int about(int peg, int what) {
        if (!pegs.has(peg)) {
            return UNKNOWN;
        }
        switch (what) {
            case 0:
                return pegs.place[peg];
            case 1:
                return pegs.price[peg];
            case 2:
                return pegs.stands[peg] ? 1 : 0;
            case 3:
                return pegs.side[peg];
            default:
                return ABOUT_OUTSIDE;
        }
    }

    public int bow(int wind, int pull, int bow, int sway, int reach) {
        boolean windFits = within(wind, 0, 500) && within(pull, 1000, 20000);
        boolean bowFits = within(bow, 100, 1000) && within(sway, 0, 99) && sway < bow;
        if (!windFits || !bowFits || !within(reach, 20, 800)) {
            return OUTSIDE;
        }
        sweep.wind = wind;
        sweep.pull = pull;
        sweep.room = PARTS * (bow - sway);
        sweep.reach = reach;
        return 1;
    }

    public long off(int x, int what) {
        if (!laySpanOver(x)) {
            return LOST + UNKNOWN;
        }
        if (!within(what, 0, 1)) {
            return LOST + OUTSIDE;
        }
        return part(span.offUpper(x), span.decimetres(), what);
    }

    public int kept(int x) {
        if (!laySpanOver(x)) {
            return UNKNOWN;
        }
        return span.keepsPlace(x) ? 1 : 0;
    }

    public int worst() {
        for (int i = 0; i < pegs.spans(); i++) {
            laySpan(i);
            int x = span.firstNotKept();
            if (x != NONE) {
                return x;
            }
        }
        return NONE;
    }

    public int spanKept(int i) {
        if (!pegs.hasSpan(i)) {
            return UNKNOWN;
        }
        laySpan(i);
        return span.isKept() ? 1 : 0;
    }

    public int ways(int from, int to, int s) {
        if (!pegs.has(from) || !pegs.has(to)) {
            return UNKNOWN;
        }
        if (!within(s, 0, MOST_SIDE)) {
            return OUTSIDE;
        }
        if (from >= to) {
            return NO;
        }
        return chooser.countSpans(from, to, s);
    }

    // ---- 2 the carrier

    public int carrier(int tension, int own, int droppers, int load, int hang) {
        boolean pullFits = within(tension, 1000, 20000) && within(own, 1, 50);
        boolean hungFits = within(droppers, 1, 12) && within(load, 1, 2000);
        if (!pullFits || !hungFits || !within(hang, 500, 3000)) {
            return OUTSIDE;
        }
        wire.tension = tension;
        wire.own = own;
        wire.droppers = droppers;
        wire.load = load;
        wire.hang = hang;
        return 1;
    }

    public long sag(int length, int i, int what) {
        int refusal = refusalOfDropper(length, i, what);
        if (refusal != FINE) {
            return LOST + refusal;
        }
        return part(wire.sagUpper(length, i), wire.lower(), what);
    }

    public long dropper(int length, int i, int what) {
        int refusal = refusalOfDropper(length, i, what);
        if (refusal != FINE) {
            return LOST + refusal;
        }
        return part(wire.lengthUpper(length, i), wire.lower(), what);
    }

    public int cut(int length, int i) {
        int refusal = refusalOfDropper(length, i, 0);
        if (refusal != FINE) {
            return CUT_LOST + refusal;
        }
        return wire.cutUp(length, i);
    }

    public long bears(int length, int what) {
        if (!within(length, 1, MOST_CARRIER) || !within(what, 0, 1)) {
            return LOST + OUTSIDE;
        }
        return part(wire.weight(length), 2, what);
    }

    public int shortOne() {
        for (int k = 0; k < pegs.spans(); k++) {
            int decimetres = pegs.spanLength(k);
            for (int i = 0; i < wire.droppers; i++) {
                if (wire.lengthUpper(decimetres, i) < LONG_ENOUGH * wire.lower()) {
                    return 100 * k + i;
                }
            }
        }
        return NONE;
    }

    public long heat(int length, int degrees, int what) {
        if (!within(length, 0, 8000) || !within(degrees, -40, 80) || !within(what, 0, 1)) {
            return LOST + OUTSIDE;
        }
        return part((long) length * (degrees - 10) * 17, 10000, what);
    }

    // ---- 3 choices, bars

    public int choose(int s) {
        if (!within(s, 0, MOST_SIDE)) {
            return OUTSIDE;
        }
        if (pegs.count < 2) {
            return STATE;
        }
        if (!chooser.findCheapest(s)) {
            return NO;
        }
        chooser.raiseFound();
        return pegs.priceOfMasts();
    }

    public int price() {
        return pegs.priceOfMasts();
    }

    public int bars(int first, int last, int length) {
        if (!pegs.hasSpan(first) || !pegs.hasSpan(last) || last < first) {
            return UNKNOWN;
        }
        if (!within(length, 100, 20000)) {
            return OUTSIDE;
        }
        if ((last - first + 1) * wire.droppers > MOST_PIECES) {
            return FULL;
        }
        saw.count = 0;
        for (int k = first; k <= last; k++) {
            for (int i = 0; i < wire.droppers; i++) {
                int piece = wire.cutUp(pegs.spanLength(k), i);
                if (piece < 1 || piece > length) {
                    return NO;
                }
                saw.take(piece);
            }
        }
        return saw.fewestBars(length);
    }

    public int told(int what) {
        switch (what) {
            case 0:
                return track.bends;
            case 1:
                return pegs.count;
            case 2:
                return pegs.masts;
            case 3:
                return pegs.spans();
            case 4:
                return wire.droppers;
            case 5:
                return track.end;
            case 6:
                return pegs.lengthOfSpans();
            default:
                return OUTSIDE;
        }
    }

    // ---- helpers of the calls

    private static boolean within(int n, int least, int most) {
        return n >= least && n <= most;
    }

    private void laySpan(int i) {
        int from = pegs.mastPeg[i];
        int to = pegs.mastPeg[i + 1];
        span.lay(from, pegs.side[from], to, pegs.side[to]);
    }

    /** Lays the first span that the place lies in; false if it lies in none. */
    private boolean laySpanOver(int x) {
        for (int i = 0; i < pegs.spans(); i++) {
            if (x >= pegs.spanBegin(i) && x <= pegs.spanEnd(i)) {
                laySpan(i);
                return true;
            }
        }
        return false;
    }

    private int refusalOfDropper(int length, int i, int what) {
        if (i < 0 || i >= wire.droppers) {
            return UNKNOWN;
        }
        if (!within(length, 1, MOST_CARRIER) || !within(what, 0, 1)) {
            return OUTSIDE;
        }
        return FINE;
    }

    /** One part of a fraction in lowest terms: the upper one for what = 0, else the lower one. */
    private static long part(long upper, long lower, int what) {
        long divisor = commonDivisor(Math.abs(upper), lower);
        if (divisor == 0) {
            return LOST;
        }
        return what == 0 ? upper / divisor : lower / divisor;
    }

    private static long commonDivisor(long a, long b) {
        // Euclid's way needs fewer than a hundred steps for any two longs.
        for (int step = 0; step < 100 && b != 0; step++) {
            long rest = a % b;
            a = b;
            b = rest;
        }
        return a;
    }

    /** The line with its bends, which are held in order of places. */
    private static final class Track {
        int end = 1000;
        int bends;
        final int[] from = new int[MOST_BENDS];
        final int[] to = new int[MOST_BENDS];
        final int[] curve = new int[MOST_BENDS];

        boolean has(int x) {
            return x >= 0 && x <= end;
        }

        boolean isBentWithin(int a, int b) {
            for (int i = 0; i < bends; i++) {
                if (a < to[i] && from[i] < b) {
                    return true;
                }
            }
            return false;
        }

        void insert(int a, int b, int newCurve) {
            if (bends >= MOST_BENDS) {
                return;
            }
            int at = bends;
            while (at > 0 && from[at - 1] > a) {
                from[at] = from[at - 1];
                to[at] = to[at - 1];
                curve[at] = curve[at - 1];
                at--;
            }
            from[at] = a;
            to[at] = b;
            curve[at] = newCurve;
            bends++;
        }

        long asideOf(int x) {
            long sum = 0;
            for (int i = 0; i < bends && from[i] < x; i++) {
                long begun = x - from[i];
                long ended = x > to[i] ? x - to[i] : 0;
                sum += curve[i] * (begun * begun - ended * ended);
            }
            return sum;
        }
    }

    /** The pegs in order of places, and the masts that stand at some of them. */
    private static final class PegRow {
        int count;
        int masts;
        final int[] place = new int[MOST_PEGS];
        final int[] price = new int[MOST_PEGS];
        /** ASIDE of each peg's place, which stays, because no bend comes or goes while there are pegs. */
        final long[] trackAside = new long[MOST_PEGS];
        final int[] side = new int[MOST_PEGS];
        final boolean[] stands = new boolean[MOST_PEGS];
        /** The pegs with masts in order, so that span i goes from entry i to entry i + 1. */
        final int[] mastPeg = new int[MOST_PEGS];

        boolean has(int p) {
            return p >= 0 && p < count;
        }

        int countBefore(int x) {
            int n = 0;
            while (n < count && place[n] < x) {
                n++;
            }
            return n;
        }

        /** Only while no mast stands, so that sides and masts need not move along. */
        void insert(int number, int x, int cost, long aside) {
            if (count >= MOST_PEGS || number < 0) {
                return;
            }
            for (int i = count; i > number; i--) {
                place[i] = place[i - 1];
                price[i] = price[i - 1];
                trackAside[i] = trackAside[i - 1];
            }
            place[number] = x;
            price[number] = cost;
            trackAside[number] = aside;
            takeDown(count);
            count++;
        }

        void raise(int p, int s) {
            stands[p] = true;
            side[p] = s;
        }

        void takeDown(int p) {
            stands[p] = false;
            side[p] = 0;
        }

        void listMasts() {
            masts = 0;
            for (int p = 0; p < count; p++) {
                if (stands[p]) {
                    mastPeg[masts] = p;
                    masts++;
                }
            }
        }

        int spans() {
            return masts > 1 ? masts - 1 : 0;
        }

        boolean hasSpan(int i) {
            return i >= 0 && i < spans();
        }

        int spanBegin(int i) {
            return place[mastPeg[i]];
        }

        int spanEnd(int i) {
            return place[mastPeg[i + 1]];
        }

        int spanLength(int i) {
            return spanEnd(i) - spanBegin(i);
        }

        int lengthOfSpans() {
            return spans() > 0 ? spanEnd(spans() - 1) - spanBegin(0) : 0;
        }

        int priceOfMasts() {
            int sum = 0;
            for (int i = 0; i < masts; i++) {
                sum += price[mastPeg[i]];
            }
            return sum;
        }
    }

    /** The wind and what the bow leaves room for. */
    private static final class Sweep {
        int wind = 0;
        int pull = 10000;
        /** The bow less the sway, in the line's parts of a millimetre. */
        int room = PARTS * 400;
        int reach = 600;
    }

    /** The contact wire between two masts; one object is laid again for each pair of them. */
    private static final class Span {
        private final Track track;
        private final PegRow pegs;
        private final Sweep sweep;
        private int begin;
        private int end;
        private long wireAtBegin;
        private long wireAtEnd;

        Span(Track track, PegRow pegs, Sweep sweep) {
            this.track = track;
            this.pegs = pegs;
            this.sweep = sweep;
        }

        /** From one peg to another, with sides that masts there have or could have. */
        void lay(int from, int side0, int to, int side1) {
            begin = pegs.place[from];
            end = pegs.place[to];
            wireAtBegin = pegs.trackAside[from] + PARTS * side0;
            wireAtEnd = pegs.trackAside[to] + PARTS * side1;
        }

        int decimetres() {
            return end - begin;
        }

        /** OFF as a fraction whose lower number is the span's length. */
        long offUpper(int x) {
            return wireAtBegin * (end - x) + wireAtEnd * (x - begin) - track.asideOf(x) * (end - begin);
        }

        /**
         * How far the wire, blown to the side that it is off to, goes beyond the room there, times
         * the length and the pull: so all stays whole and exact, far within a long. On the other
         * side of the track off is below 0.
         */
        private long excess(int x, long off) {
            long blown = (long) sweep.wind * (x - begin) * (end - x);
            long room = (long) sweep.room * sweep.pull;
            return off * sweep.pull + (blown - room) * (end - begin);
        }

        boolean keepsPlace(int x) {
            return excess(x, Math.abs(offUpper(x))) <= 0;
        }

        int firstNotKept() {
            for (int x = begin; x <= end; x++) {
                if (!keepsPlace(x)) {
                    return x;
                }
            }
            return NONE;
        }

        /** Looks at the places by stretches, in each of which the track has one curve. */
        boolean isKept() {
            if (end - begin > sweep.reach) {
                return false;
            }
            int done = begin;
            for (int i = 0; i < track.bends && done < end; i++) {
                int bendBegin = track.from[i] < end ? track.from[i] : end;
                int bendEnd = track.to[i] < end ? track.to[i] : end;
                if (bendBegin > done) {
                    if (!keepsStretch(done, bendBegin, 0)) {
                        return false;
                    }
                    done = bendBegin;
                }
                if (bendEnd > done) {
                    if (!keepsStretch(done, bendEnd, track.curve[i])) {
                        return false;
                    }
                    done = bendEnd;
                }
            }
            return done >= end || keepsStretch(done, end, 0);
        }

        private boolean keepsStretch(int from, int to, int curve) {
            return keepsPlace(from) && keepsPlace(to)
                && keepsTop(from, to, curve, 1) && keepsTop(from, to, curve, -1);
        }

        /**
         * In a stretch of one curve the excess to one side (sign 1 or -1) is a parabola, so that
         * beside the stretch's two ends, which the caller looks at, its top alone can be too far
         * out, if it opens downwards.
         */
        private boolean keepsTop(int from, int to, int curve, int sign) {
            // With each step along the line the excess rises by so much less.
            long fall = 2L * (end - begin) * (sign * curve * sweep.pull + sweep.wind);
            if (fall <= 0 || to - from < 2) {
                return true;
            }
            long rise = excess(from + 1, sign * offUpper(from + 1)) - excess(from, sign * offUpper(from));
            if (rise <= 0) {
                return true;
            }
            long steps = (rise + fall - 1) / fall;
            if (steps >= to - from) {
                return true;
            }
            int top = from + (int) steps;
            return excess(top, sign * offUpper(top)) <= 0;
        }
    }

    /** The carrying wire; its fractions all have the same lower number. */
    private static final class Carrier {
        int tension = 10000;
        int own = 10;
        int droppers = 4;
        int load = 100;
        int hang = 1400;

        /** Above 0, because droppers and tension are. */
        long lower() {
            return 8L * droppers * droppers * tension;
        }

        /** Distances are counted in parts of the span, twice as many parts as droppers. */
        long sagUpper(int decimetres, int i) {
            int parts = 2 * droppers;
            int here = 2 * i + 1;
            long pulls = 0;
            for (int k = 0; k < droppers; k++) {
                int there = 2 * k + 1;
                pulls += Math.min(here, there) * (parts - Math.max(here, there));
            }
            long ownSag = (long) own * decimetres * decimetres * here * (parts - here);
            return ownSag + 2L * load * decimetres * pulls;
        }

        long lengthUpper(int decimetres, int i) {
            return hang * lower() - sagUpper(decimetres, i);
        }

        int cutUp(int decimetres, int i) {
            long divisor = lower();
            if (divisor <= 0) {
                return 0;
            }
            return (int) -Math.floorDiv(-lengthUpper(decimetres, i), divisor);
        }

        long weight(int decimetres) {
            return (long) own * decimetres + (long) droppers * load;
        }
    }

    /**
     * The cheapest masts, found from the last peg backwards. A state is a mast with one of three
     * sides, numbered 3 times the peg and the side's number: the lesser state is the one that the
     * document prefers.
     */
    private static final class Chooser {
        private static final int SIDES = 3;
        private static final int NO_WAY = Integer.MAX_VALUE;
        private static final int NO_STATE = -1;

        private final PegRow pegs;
        private final Span span;
        /** The least price from a state to the line's last peg, with its own mast. */
        private final int[] cost = new int[SIDES * MOST_PEGS];
        private final int[] next = new int[SIDES * MOST_PEGS];
        private int first;
        private int s;

        Chooser(PegRow pegs, Span span) {
            this.pegs = pegs;
            this.span = span;
        }

        int countSpans(int from, int to, int newS) {
            s = newS;
            int n = 0;
            for (int k = 0; k < SIDES; k++) {
                for (int m = 0; m < SIDES; m++) {
                    layBetween(SIDES * from + k, SIDES * to + m);
                    if (span.isKept()) {
                        n++;
                    }
                }
            }
            return n;
        }

        boolean findCheapest(int newS) {
            s = newS;
            int states = SIDES * pegs.count;
            for (int state = states - 1; state >= 0; state--) {
                settle(state, states);
            }
            first = 0;
            for (int state = 1; state < SIDES; state++) {
                if (cost[state] < cost[first]) {
                    first = state;
                }
            }
            return cost[first] != NO_WAY;
        }

        /**
         * The far states come first: they tend to cost least, and then few spans of nearer ones
         * need a look. Of equal prices the later, lesser state wins.
         */
        private void settle(int state, int states) {
            int peg = state / SIDES;
            cost[state] = peg == pegs.count - 1 ? pegs.price[peg] : NO_WAY;
            next[state] = NO_STATE;
            for (int to = states - 1; to >= SIDES * (peg + 1); to--) {
                if (cost[to] == NO_WAY) {
                    continue;
                }
                int whole = pegs.price[peg] + cost[to];
                if (whole > cost[state]) {
                    continue;
                }
                layBetween(state, to);
                if (span.isKept()) {
                    cost[state] = whole;
                    next[state] = to;
                }
            }
        }

        private void layBetween(int state, int to) {
            span.lay(state / SIDES, sideOf(state), to / SIDES, sideOf(to));
        }

        private int sideOf(int state) {
            return (state % SIDES - 1) * s;
        }

        void raiseFound() {
            for (int p = 0; p < pegs.count; p++) {
                pegs.takeDown(p);
            }
            int state = first;
            for (int n = 0; n < pegs.count && state != NO_STATE; n++) {
                pegs.raise(state / SIDES, sideOf(state));
                state = next[state];
            }
            pegs.listMasts();
        }
    }

    /** Cuts pieces from the fewest bars. */
    private static final class Saw {
        /** A bar in use is told with what is cut from it, which is always below this. */
        private static final int BAR = 1 << 15;

        int count;
        private final int[] piece = new int[MOST_PIECES];
        /**
         * For each set of pieces the fewest bars, then the least cut from the last of them. It
         * grows with the need, because most objects never cut many pieces.
         */
        private int[] best = new int[1];

        void take(int millimetres) {
            if (count >= 0 && count < MOST_PIECES) {
                piece[count] = millimetres;
                count++;
            }
        }

        /** Each piece must be from 1 to the bar's length. */
        int fewestBars(int bar) {
            int sets = 1 << count;
            if (best.length < sets) {
                best = new int[sets];
            }
            best[0] = BAR;
            for (int set = 1; set < sets; set++) {
                best[set] = leastOf(set, bar);
            }
            return best[sets - 1] / BAR;
        }

        private int leastOf(int set, int bar) {
            int least = Integer.MAX_VALUE;
            for (int i = 0; i < count; i++) {
                if ((set & 1 << i) != 0) {
                    least = Math.min(least, withPiece(best[set ^ 1 << i], piece[i], bar));
                }
            }
            return least;
        }

        private static int withPiece(int used, int millimetres, int bar) {
            if (used % BAR + millimetres <= bar) {
                return used + millimetres;
            }
            return (used / BAR + 1) * BAR + millimetres;
        }
    }
}
