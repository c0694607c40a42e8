import java.util.ArrayList;
import java.util.HashMap;
import java.util.List;
import java.util.Map;
import java.util.TreeMap;

/**
 * The document once more, as plainly and slowly as it can be written: exact fractions, every place
 * looked at, every choice of masts and every way to cut tried. OracleTest holds WireRow against it.
 */
final class PlainRow {
    private static final long LOST = -1000000000000000L;

    private int length = 1000;
    private final List<int[]> bends = new ArrayList<>();
    /** Place to price. */
    private final TreeMap<Integer, Integer> pegs = new TreeMap<>();
    /** Place to side. */
    private TreeMap<Integer, Integer> masts = new TreeMap<>();
    private int wind = 0, pull = 10000, bow = 400, sway = 0, reach = 600;
    private int tension = 10000, own = 10, droppers = 4, load = 100, hang = 1400;

    private final Map<List<Integer>, Boolean> known = new HashMap<>();

    int length(int n) {
        if (n < 100 || n > 4000) return -2;
        if (!pegs.isEmpty()) return -3;
        int was = length;
        length = n;
        bends.clear();
        known.clear();
        return was;
    }

    int bend(int a, int b, int curve) {
        if (!(0 <= a && a < b && b <= length) || Math.abs((long) curve) > 50) return -2;
        if (!pegs.isEmpty()) return -3;
        if (bends.size() == 8) return -4;
        for (int[] other : bends) {
            boolean apart = b <= other[0] || other[1] <= a;
            if (!apart) return -5;
        }
        bends.add(new int[] {a, b, curve});
        known.clear();
        return bends.size();
    }

    long aside(int x) {
        if (x < 0 || x > length) return LOST - 1;
        long sum = 0;
        for (int[] bend : bends) {
            long square = 0;
            if (x > bend[0]) square += (long) (x - bend[0]) * (x - bend[0]);
            if (x > bend[1]) square -= (long) (x - bend[1]) * (x - bend[1]);
            sum += bend[2] * square;
        }
        return sum;
    }

    int peg(int x, int price) {
        if (x < 0 || x > length || price < 1 || price > 1000) return -2;
        if (!masts.isEmpty()) return -3;
        if (pegs.size() == 40) return -4;
        if (pegs.containsKey(x)) return -5;
        pegs.put(x, price);
        return pegs.headMap(x).size();
    }

    private boolean noPeg(int peg) {
        return peg < 0 || peg >= pegs.size();
    }

    private int placeOfPeg(int peg) {
        return new ArrayList<>(pegs.keySet()).get(peg);
    }

    int mast(int peg, int side) {
        if (noPeg(peg)) return -1;
        if (side < -400 || side > 400) return -2;
        masts.put(placeOfPeg(peg), side);
        return masts.size();
    }

    int fell(int peg) {
        if (noPeg(peg)) return -1;
        if (masts.remove(placeOfPeg(peg)) == null) return -3;
        return masts.size();
    }

    int clear() {
        int were = pegs.size();
        pegs.clear();
        masts.clear();
        bends.clear();
        known.clear();
        return were;
    }

    int about(int peg, int what) {
        if (noPeg(peg)) return -1;
        int x = placeOfPeg(peg);
        if (what == 0) return x;
        if (what == 1) return pegs.get(x);
        if (what == 2) return masts.containsKey(x) ? 1 : 0;
        if (what == 3) return masts.getOrDefault(x, 0);
        return -1000;
    }

    int bow(int wind, int pull, int bow, int sway, int reach) {
        if (wind < 0 || wind > 500 || pull < 1000 || pull > 20000 || bow < 100 || bow > 1000) return -2;
        if (sway < 0 || sway > 99 || sway >= bow || reach < 20 || reach > 800) return -2;
        this.wind = wind;
        this.pull = pull;
        this.bow = bow;
        this.sway = sway;
        this.reach = reach;
        known.clear();
        return 1;
    }

    private Ratio off(int x, int x0, int side0, int x1, int side1) {
        Ratio y0 = Ratio.of(aside(x0) + 2000L * side0);
        Ratio y1 = Ratio.of(aside(x1) + 2000L * side1);
        Ratio wire = y0.plus(y1.less(y0).times(Ratio.of(x - x0, x1 - x0)));
        return wire.less(Ratio.of(aside(x)));
    }

    private boolean keptPlace(int x, int x0, int side0, int x1, int side1) {
        Ratio blown = Ratio.of((long) wind * (x - x0) * (x1 - x), pull);
        Ratio out = off(x, x0, side0, x1, side1).size().plus(blown);
        return out.compareTo(Ratio.of(2000L * bow - 2000L * sway)) <= 0;
    }

    private boolean keptSpan(int x0, int side0, int x1, int side1) {
        if (x1 - x0 > reach) return false;
        List<Integer> key = List.of(x0, side0, x1, side1);
        Boolean before = known.get(key);
        if (before != null) return before;
        boolean kept = true;
        for (int x = x0; x <= x1 && kept; x++) {
            kept = keptPlace(x, x0, side0, x1, side1);
        }
        known.put(key, kept);
        return kept;
    }

    /** x0, side0, x1, side1 of each span. */
    private List<int[]> spans() {
        List<int[]> all = new ArrayList<>();
        Integer before = null;
        for (int x : masts.keySet()) {
            if (before != null) {
                all.add(new int[] {before, masts.get(before), x, masts.get(x)});
            }
            before = x;
        }
        return all;
    }

    private int[] spanOver(int x) {
        for (int[] span : spans()) {
            if (x >= span[0] && x <= span[2]) return span;
        }
        return null;
    }

    long off(int x, int what) {
        int[] span = spanOver(x);
        if (span == null) return LOST - 1;
        if (what != 0 && what != 1) return LOST - 2;
        return off(x, span[0], span[1], span[2], span[3]).part(what);
    }

    int kept(int x) {
        int[] span = spanOver(x);
        if (span == null) return -1;
        return keptPlace(x, span[0], span[1], span[2], span[3]) ? 1 : 0;
    }

    int worst() {
        for (int x = 0; x <= length; x++) {
            if (kept(x) == 0) return x;
        }
        return -6;
    }

    int spanKept(int i) {
        List<int[]> all = spans();
        if (i < 0 || i >= all.size()) return -1;
        int[] span = all.get(i);
        return keptSpan(span[0], span[1], span[2], span[3]) ? 1 : 0;
    }

    int ways(int from, int to, int s) {
        if (noPeg(from) || noPeg(to)) return -1;
        if (s < 0 || s > 400) return -2;
        if (from >= to) return -5;
        int n = 0;
        for (int side0 : new int[] {-s, 0, s}) {
            for (int side1 : new int[] {-s, 0, s}) {
                if (keptSpan(placeOfPeg(from), side0, placeOfPeg(to), side1)) n++;
            }
        }
        return n;
    }

    int carrier(int tension, int own, int droppers, int load, int hang) {
        if (tension < 1000 || tension > 20000 || own < 1 || own > 50) return -2;
        if (droppers < 1 || droppers > 12 || load < 1 || load > 2000 || hang < 500 || hang > 3000) return -2;
        this.tension = tension;
        this.own = own;
        this.droppers = droppers;
        this.load = load;
        this.hang = hang;
        return 1;
    }

    private Ratio distance(int l, int i) {
        return Ratio.of((long) l * (2 * i + 1), 2L * droppers);
    }

    private Ratio sag(int l, int i) {
        Ratio span = Ratio.of(l);
        Ratio x = distance(l, i);
        Ratio sum = Ratio.of(own, 2).times(x).times(span.less(x));
        for (int k = 0; k < droppers; k++) {
            Ratio d = distance(l, k);
            Ratio arm = x.compareTo(d) >= 0 ? d.times(span.less(x)) : x.times(span.less(d));
            sum = sum.plus(Ratio.of(load).times(arm).by(span));
        }
        return sum.by(Ratio.of(tension));
    }

    private Ratio dropper(int l, int i) {
        return Ratio.of(hang).less(sag(l, i));
    }

    private int refusal(int l, int i, int what) {
        if (i < 0 || i >= droppers) return -1;
        if (l < 1 || l > 800 || what < 0 || what > 1) return -2;
        return 0;
    }

    long sag(int l, int i, int what) {
        int refusal = refusal(l, i, what);
        return refusal != 0 ? LOST + refusal : sag(l, i).part(what);
    }

    long dropper(int l, int i, int what) {
        int refusal = refusal(l, i, what);
        return refusal != 0 ? LOST + refusal : dropper(l, i).part(what);
    }

    int cut(int l, int i) {
        int refusal = refusal(l, i, 0);
        return refusal != 0 ? -1000000 + refusal : (int) dropper(l, i).up();
    }

    long bears(int l, int what) {
        if (l < 1 || l > 800 || what < 0 || what > 1) return LOST - 2;
        Ratio all = Ratio.of((long) own * l).plus(Ratio.of((long) load * droppers));
        return all.by(Ratio.of(2)).part(what);
    }

    int shortOne() {
        List<int[]> all = spans();
        for (int k = 0; k < all.size(); k++) {
            for (int i = 0; i < droppers; i++) {
                Ratio l = dropper(all.get(k)[2] - all.get(k)[0], i);
                if (l.compareTo(Ratio.of(100)) < 0) return 100 * k + i;
            }
        }
        return -6;
    }

    long heat(int l, int degrees, int what) {
        if (l < 0 || l > 8000 || degrees < -40 || degrees > 80 || what < 0 || what > 1) return LOST - 2;
        return Ratio.of(l).times(Ratio.of(degrees - 10)).times(Ratio.of(17, 10000)).part(what);
    }

    // The best choice so far while all are tried.
    private int leastPrice;
    private TreeMap<Integer, Integer> bestChoice;

    int choose(int s) {
        if (s < 0 || s > 400) return -2;
        if (pegs.size() < 2) return -3;
        leastPrice = Integer.MAX_VALUE;
        bestChoice = null;
        if (pegs.size() <= 7) {
            tryAllChoices(s);
        } else {
            growChoices(s);
        }
        if (bestChoice == null) return -5;
        masts = bestChoice;
        return leastPrice;
    }

    private void tryAllChoices(int s) {
        for (int side : new int[] {-s, 0, s}) {
            TreeMap<Integer, Integer> begun = new TreeMap<>();
            begun.put(pegs.firstKey(), side);
            tryChoices(s, begun, pegs.get(pegs.firstKey()));
        }
    }

    /** For many pegs: the best way from the line's beginning to each mast, from the first peg on. */
    private void growChoices(int s) {
        int[] sides = {-s, 0, s};
        Map<List<Integer>, TreeMap<Integer, Integer>> bestTo = new HashMap<>();
        for (int x : pegs.keySet()) {
            for (int side : sides) {
                TreeMap<Integer, Integer> best = x == pegs.firstKey() ? new TreeMap<>() : null;
                for (int x0 : pegs.headMap(x).keySet()) {
                    for (int side0 : sides) {
                        TreeMap<Integer, Integer> way = bestTo.get(List.of(x0, side0));
                        if (way != null && keptSpan(x0, side0, x, side) && (best == null || isBetter(way, best))) {
                            best = way;
                        }
                    }
                }
                if (best == null) continue;
                best = new TreeMap<>(best);
                best.put(x, side);
                bestTo.put(List.of(x, side), best);
            }
        }
        for (int side : sides) {
            TreeMap<Integer, Integer> way = bestTo.get(List.of(pegs.lastKey(), side));
            if (way != null && (bestChoice == null || isBetter(way, bestChoice))) bestChoice = way;
        }
        if (bestChoice != null) leastPrice = priceOf(bestChoice);
    }

    /** Of two ways, neither of which is the other one's beginning. */
    private boolean isBetter(TreeMap<Integer, Integer> a, TreeMap<Integer, Integer> b) {
        if (priceOf(a) != priceOf(b)) return priceOf(a) < priceOf(b);
        List<Integer> placesA = new ArrayList<>(a.keySet());
        List<Integer> placesB = new ArrayList<>(b.keySet());
        for (int i = 0; i < Math.min(placesA.size(), placesB.size()); i++) {
            int x = placesA.get(i);
            int y = placesB.get(i);
            if (x != y) return x < y;
            if (a.get(x).intValue() != b.get(x)) return a.get(x) < b.get(x);
        }
        return false;
    }

    private int priceOf(TreeMap<Integer, Integer> way) {
        int sum = 0;
        for (int x : way.keySet()) sum += pegs.get(x);
        return sum;
    }

    /** Tries the choices in the order of preference, so that the first of one price is the one. */
    private void tryChoices(int s, TreeMap<Integer, Integer> chosen, int price) {
        int at = chosen.lastKey();
        if (at == pegs.lastKey()) {
            if (price < leastPrice) {
                leastPrice = price;
                bestChoice = new TreeMap<>(chosen);
            }
            return;
        }
        for (int x : pegs.tailMap(at, false).keySet()) {
            for (int side : new int[] {-s, 0, s}) {
                if (!keptSpan(at, chosen.get(at), x, side)) continue;
                chosen.put(x, side);
                tryChoices(s, chosen, price + pegs.get(x));
                chosen.remove(x);
            }
        }
    }

    int price() {
        return priceOf(masts);
    }

    int bars(int first, int last, int bar) {
        List<int[]> all = spans();
        if (first < 0 || last < first || last >= all.size()) return -1;
        if (bar < 100 || bar > 20000) return -2;
        if ((last - first + 1) * droppers > 14) return -4;
        List<Integer> pieces = new ArrayList<>();
        for (int k = first; k <= last; k++) {
            for (int i = 0; i < droppers; i++) {
                pieces.add((int) dropper(all.get(k)[2] - all.get(k)[0], i).up());
            }
        }
        for (int piece : pieces) {
            if (piece > bar || piece < 1) return -5;
        }
        for (int n = 1; ; n++) {
            if (fits(pieces, 0, new int[n], bar)) return n;
        }
    }

    private static boolean fits(List<Integer> pieces, int next, int[] used, int bar) {
        if (next == pieces.size()) return true;
        for (int k = 0; k < used.length; k++) {
            if (used[k] + pieces.get(next) <= bar) {
                used[k] += pieces.get(next);
                if (fits(pieces, next + 1, used, bar)) return true;
                used[k] -= pieces.get(next);
            }
            // All bars from the first unused one on are alike.
            if (used[k] == 0) return false;
        }
        return false;
    }

    int told(int what) {
        int decimetres = 0;
        for (int[] span : spans()) decimetres += span[2] - span[0];
        int[] all = {bends.size(), pegs.size(), masts.size(), spans().size(), droppers, length, decimetres};
        return what < 0 || what >= all.length ? -2 : all[what];
    }
}
