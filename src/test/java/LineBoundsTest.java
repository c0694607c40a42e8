import java.util.function.Supplier;

/** Each sentence of the document that names a bound or an edge, for promises 1 to 9. */
public final class LineBoundsTest {
    private static final int UNKNOWN = -1, OUTSIDE = -2, STATE = -3, FULL = -4, NO = -5;
    private static final int ABOUT_OUTSIDE = -1000;
    private static final long LOST_UNKNOWN = -1000000000000001L;

    private static final Due due = new Due();
    private static final Twins twins = new Twins(due);

    public static void main(String[] args) {
        newObjectsLine();
        newObjectsBow();
        newObjectsReach();
        newObjectsCarrier();
        newObjectIsEmpty();
        lengthFrom100To4000();
        lengthTellsWhichItWas();
        lengthTakesBendsAway();
        lengthLeavesTheRest();
        lengthWithPegs();
        bendFromPlaceToPlace();
        bendsOnTheShortestAndLongestLine();
        bendsCurve();
        bendWithPegs();
        eightBendsAtMost();
        bendOverAnother();
        bendsMayTouch();
        asideOfPlacesOfTheLine();
        asideAtABendsEnds();
        pegsPlace();
        pegsPrice();
        pegsNumberByPlaces();
        pegWithMasts();
        fortyPegsAtMost();
        pegWhereThereIsOne();
        mastAtAPeg();
        mastsSide();
        mastWhereThereIsOne();
        fellAtAPeg();
        fellWhereThereIsNone();
        clearOfNothingAndOfAll();
        clearLeavesTheRest();
        aboutAPeg();
        aboutWhat();
        aboutNoMast();
        aboutSidesLikeRefusals();
        due.end();
    }

    private static void told(String when, WireRow x, int... want) {
        for (int what = 0; what < want.length; what++) {
            due.is(when + ": told(" + what + ")", x.told(what), want[what]);
        }
    }

    private static void newObjectsLine() {
        due.by("1: as told at first: LENGTH 1000");
        WireRow x = new WireRow();
        due.is("told(5)", x.told(5), 1000);
        due.is("aside(1000)", x.aside(1000), 0);
        due.is("aside(1001)", x.aside(1001), LOST_UNKNOWN);
        due.is("bend(0, 1001, 1)", x.bend(0, 1001, 1), OUTSIDE);
        due.is("peg(1001, 1)", x.peg(1001, 1), OUTSIDE);
        due.is("bend(0, 1000, 1)", x.bend(0, 1000, 1), 1);
        due.is("peg(1000, 1)", x.peg(1000, 1), 0);
    }

    private static void newObjectsBow() {
        due.by("1: as told at first: BOW 400; WIND, SWAY 0");
        WireRow x = new WireRow();
        x.bend(700, 702, 1);
        x.bend(710, 712, -1);
        Scenes.putMasts(x, 0, 400, 600, 400, 700, 400, 702, 400, 705, -400, 710, -400, 712, -400);
        due.is("kept(300) with all of the BOW and no WIND", x.kept(300), 1);
        due.is("off(701), a little more", x.off(701, 0), 800001);
        due.is("kept(701)", x.kept(701), 0);
        due.is("off(711), a little more to the other side", x.off(711, 0), -800001);
        due.is("kept(711)", x.kept(711), 0);
        due.is("worst()", x.worst(), 701);
        WireRow y = new WireRow();
        y.bend(599, 600, 1);
        Scenes.putMasts(y, 0, 400, 600, 400);
        due.isFraction("off(1), the least above", y.off(1, 0), y.off(1, 1), 480000001, 600);
        due.is("kept(300), half of a part above: the least WIND would be more", y.kept(300), 0);
        due.is("worst()", y.worst(), 1);
    }

    private static void newObjectsReach() {
        due.by("1: as told at first: REACH 600");
        due.is("a span of 600", firstSpanKept(600), 1);
        due.is("a span of 601", firstSpanKept(601), 0);
    }

    private static int firstSpanKept(int length) {
        WireRow x = new WireRow();
        Scenes.putMasts(x, 0, 0, length, 0);
        return x.spanKept(0);
    }

    private static void newObjectsCarrier() {
        due.by("1: as told at first: TENSION 10000, DROPPERS 4, HANG 1400; OWN 10, LOAD 100");
        WireRow x = new WireRow();
        due.is("told(4)", x.told(4), 4);
        due.isFraction("bears(1): 10 and 400, by 2", x.bears(1, 0), x.bears(1, 1), 205, 1);
        due.isFraction("bears(800): 8000 and 400, by 2", x.bears(800, 0), x.bears(800, 1), 4200, 1);
        // at 20 of 160: 10 x 20 x 140 by 2, and 100 x (20 x 140 and 20 x 100, 60, 20) by 160; by 10000
        due.isFraction("sag(160, 0)", x.sag(160, 0, 0), x.sag(160, 0, 1), 9, 5);
        due.isFraction("dropper(160, 0)", x.dropper(160, 0, 0), x.dropper(160, 0, 1), 7000 - 9, 5);
    }

    private static void newObjectIsEmpty() {
        due.by("1: no BENDS, PEGS");
        WireRow x = new WireRow();
        told("new", x, 0, 0, 0, 0, 4, 1000, 0);
        due.is("price()", x.price(), 0);
        due.is("worst()", x.worst(), -6);
        due.is("shortOne()", x.shortOne(), -6);
        due.is("clear()", x.clear(), 0);
    }

    private static void lengthFrom100To4000() {
        due.by("2: LENGTH (100 to 4000): OUTSIDE");
        twins.bounds("length()", WireRow::new, WireRow::length, new int[] {100, 4000}, new long[] {1000, 1000}, OUTSIDE);
        twins.beyond("length() of a line with bends", Scenes::bent, WireRow::length, 100, 4000, OUTSIDE);
        for (int n : new int[] {100, 4000}) {
            WireRow x = new WireRow();
            x.length(n);
            due.is("told(5)", x.told(5), n);
            due.is("the last place of " + n, x.aside(n), 0);
            due.is("the place behind " + n, x.aside(n + 1), LOST_UNKNOWN);
        }
    }

    private static void lengthTellsWhichItWas() {
        due.by("2: which it was");
        WireRow x = new WireRow();
        due.is("length(100)", x.length(100), 1000);
        due.is("length(4001)", x.length(4001), OUTSIDE);
        due.is("length(4000)", x.length(4000), 100);
        due.is("length(4000) again", x.length(4000), 4000);
        due.is("length(101)", x.length(101), 4000);
        due.is("told(5)", x.told(5), 101);
    }

    private static void lengthTakesBendsAway() {
        due.by("2: no BENDS then");
        for (int n : new int[] {100, 999, 1000, 4000}) {
            WireRow x = Scenes.eightBends();
            due.is("length(" + n + ") with bends", x.length(n), 1000);
            due.is("told(0)", x.told(0), 0);
            due.is("aside of the end", x.aside(n), 0);
            due.is("a bend where one was", x.bend(0, 10, -1), 1);
            due.is("aside of its end", x.aside(10), -100);
        }
    }

    /** A line on which each number of bow() and carrier() tells. */
    private static WireRow withLine(WireRow x) {
        Scenes.putMasts(x, 0, 0, 30, 0, 160, 0);
        return x;
    }

    private static void lengthLeavesTheRest() {
        due.by("2: LENGTH (no BENDS then), nothing else");
        for (int n : new int[] {1000, 4000}) {
            WireRow x = new WireRow();
            Scenes.setAll(x);
            x.length(n);
            WireRow twin = new WireRow();
            twin.length(n);
            Scenes.setAll(twin);
            twins.alike("length(" + n + ") comes last", withLine(x), withLine(twin));
        }
    }

    private static void lengthWithPegs() {
        due.by("2: STATE: there are PEGS");
        for (int n : new int[] {100, 1000, 4000}) {
            twins.refused("length(" + n + ") with a peg", () -> Scenes.withPegs(7), x -> x.length(n), STATE);
            twins.refused("length(" + n + ") with pegs and bends", Scenes::line, x -> x.length(n), STATE);
        }
        WireRow x = Scenes.line();
        x.clear();
        due.is("length(500) when the pegs are gone", x.length(500), 2000);
    }

    private static void bendFromPlaceToPlace() {
        due.by("3: OUTSIDE: not 0 <= a < b <= LENGTH");
        Supplier<WireRow> fresh = WireRow::new;
        twins.bounds("bend(a, 1000, 1)", fresh, (x, a) -> x.bend(a, 1000, 1), new int[] {0, 999}, new long[] {1, 1}, OUTSIDE);
        twins.bounds("bend(0, b, 1)", fresh, (x, b) -> x.bend(0, b, 1), new int[] {1, 1000}, new long[] {1, 1}, OUTSIDE);
        twins.bounds("bend(500, b, 1)", fresh, (x, b) -> x.bend(500, b, 1), new int[] {501, 1000}, new long[] {1, 1}, OUTSIDE);
        twins.bounds("bend(a, 500, 1)", fresh, (x, a) -> x.bend(a, 500, 1), new int[] {0, 499}, new long[] {1, 1}, OUTSIDE);
        twins.refused("bend(0, 0, 1)", fresh, x -> x.bend(0, 0, 1), OUTSIDE);
        twins.refused("bend(1000, 1000, 1)", fresh, x -> x.bend(1000, 1000, 1), OUTSIDE);
        twins.refused("bend(1000, 1001, 1)", fresh, x -> x.bend(1000, 1001, 1), OUTSIDE);
        twins.refused("bend(-1, 0, 1)", fresh, x -> x.bend(-1, 0, 1), OUTSIDE);
        twins.refused("bend(MIN, MAX, 1)", fresh,
            x -> x.bend(Integer.MIN_VALUE, Integer.MAX_VALUE, 1), OUTSIDE);
        twins.refused("bend(MAX, MIN, 1)", fresh,
            x -> x.bend(Integer.MAX_VALUE, Integer.MIN_VALUE, 1), OUTSIDE);
    }

    private static void bendsOnTheShortestAndLongestLine() {
        due.by("3: b <= LENGTH, as it is");
        for (int n : new int[] {100, 4000}) {
            Supplier<WireRow> scene = () -> {
                WireRow x = new WireRow();
                x.length(n);
                return x;
            };
            twins.refused("bend to behind " + n, scene, x -> x.bend(n - 1, n + 1, 1), OUTSIDE);
            due.is("bend to " + n, scene.get().bend(n - 1, n, 1), 1);
            due.is("bend of all " + n, scene.get().bend(0, n, 1), 1);
        }
    }

    private static void bendsCurve() {
        due.by("3: OUTSIDE: CURVE (-50 to 50)");
        twins.bounds("bend(150, 160, curve)", () -> Scenes.withBends(7), (x, c) -> x.bend(150, 160, c),
            new int[] {-50, 0, 50}, new long[] {8, 8, 8}, OUTSIDE);
        for (int curve : new int[] {-50, 0, 50}) {
            WireRow x = new WireRow();
            due.is("bend(10, 20, " + curve + ")", x.bend(10, 20, curve), 1);
            due.is("aside(20)", x.aside(20), 100 * curve);
            due.is("told(0)", x.told(0), 1);
        }
    }

    private static void bendWithPegs() {
        due.by("3: STATE: there are PEGS");
        twins.refused("bend with a peg", () -> Scenes.withPegs(7), x -> x.bend(100, 200, 5), STATE);
        twins.refused("bend with pegs and bends", Scenes::line, x -> x.bend(500, 600, 5), STATE);
        WireRow x = Scenes.withPegs(7);
        x.clear();
        due.is("bend when the peg is gone", x.bend(100, 200, 5), 1);
    }

    private static void eightBendsAtMost() {
        due.by("3: BENDS, 8 at most: FULL");
        WireRow x = new WireRow();
        for (int i = 0; i < 8; i++) due.is("bend " + i, x.bend(20 * i, 20 * i + 10, 1), i + 1);
        twins.refused("a ninth bend", Scenes::eightBends, y -> y.bend(500, 510, 5), FULL);
        twins.refused("a ninth bend that touches", Scenes::eightBends, y -> y.bend(10, 20, 5), FULL);
        due.is("clear()", x.clear(), 0);
        for (int i = 0; i < 8; i++) due.is("bend " + i + " when cleared", x.bend(i, i + 1, 1), i + 1);
        due.is("a ninth bend then", x.bend(8, 9, 1), FULL);
        due.is("length(1000)", x.length(1000), 1000);
        for (int i = 0; i < 8; i++) due.is("bend " + i + " of a new length", x.bend(i, i + 1, 1), i + 1);
        due.is("a ninth bend of a new length", x.bend(8, 9, 1), FULL);
    }

    private static void bendOverAnother() {
        due.by("3: NO: it lies over another");
        Supplier<WireRow> scene = () -> {
            WireRow x = new WireRow();
            x.bend(100, 200, 3);
            x.bend(300, 301, 0);
            return x;
        };
        int[][] over = {{100, 200}, {99, 101}, {199, 201}, {99, 201}, {101, 199}, {100, 101}, {199, 200}, {0, 1000},
            {300, 301}, {299, 301}, {300, 302}, {200, 301}, {199, 300}};
        for (int[] o : over) {
            twins.refused("bend(" + o[0] + ", " + o[1] + ", 5)", scene, x -> x.bend(o[0], o[1], 5), NO);
        }
    }

    private static void bendsMayTouch() {
        due.by("3: they may touch");
        WireRow x = new WireRow();
        due.is("bend(100, 200, 3)", x.bend(100, 200, 3), 1);
        due.is("bend(300, 400, 3)", x.bend(300, 400, 3), 2);
        due.is("bend(400, 401, 3)", x.bend(400, 401, 3), 3);
        due.is("bend(99, 100, 3)", x.bend(99, 100, 3), 4);
        due.is("bend(200, 300, 3) touches two", x.bend(200, 300, 3), 5);
        // all of one curve and without gaps, they are one bend
        WireRow y = new WireRow();
        y.bend(99, 401, 3);
        for (int place : new int[] {99, 100, 150, 200, 250, 300, 350, 400, 401, 402, 1000}) {
            due.is("aside(" + place + ")", x.aside(place), y.aside(place));
        }
    }

    private static void asideOfPlacesOfTheLine() {
        due.by("4: UNKNOWN: LOST less 1");
        twins.bounds("aside()", Scenes::bent, WireRow::aside, new int[] {0, 2000},
            new long[] {0, 8 * (1900 * 1900 - 1700 * 1700) - 5 * (1700 * 1700 - 1580 * 1580)}, LOST_UNKNOWN);
        twins.beyond("aside() of the shortest line", () -> lineOf(100), WireRow::aside, 0, 100, LOST_UNKNOWN);
        twins.beyond("aside() of the longest line", () -> lineOf(4000), WireRow::aside, 0, 4000, LOST_UNKNOWN);
    }

    private static WireRow lineOf(int n) {
        WireRow x = new WireRow();
        x.length(n);
        x.bend(0, n, 50);
        return x;
    }

    private static void asideAtABendsEnds() {
        due.by("4: if x is above a, .. if x is above b");
        WireRow x = new WireRow();
        x.bend(10, 13, 7);
        long[] want = {0, 0, 7, 28, 63, 7 * (16 - 1), 7 * (25 - 4)};
        for (int i = 0; i < want.length; i++) due.is("aside(" + (9 + i) + ")", x.aside(9 + i), want[i]);
        due.is("aside(1000)", x.aside(1000), 7 * (990 * 990 - 987 * 987));
        due.is("aside of the longest, most bent line", lineOf(4000).aside(4000), 800000000L);
    }

    private static void pegsPlace() {
        due.by("5: OUTSIDE: place");
        twins.bounds("peg(x, 1)", Scenes::bent, (x, n) -> x.peg(n, 1), new int[] {0, 2000}, new long[] {0, 0}, OUTSIDE);
        twins.bounds("peg(x, 1) on the shortest line", () -> lineOf(100), (x, n) -> x.peg(n, 1),
            new int[] {0, 100}, new long[] {0, 0}, OUTSIDE);
        twins.bounds("peg(x, 1) on the longest line", () -> lineOf(4000), (x, n) -> x.peg(n, 1),
            new int[] {0, 4000}, new long[] {0, 0}, OUTSIDE);
    }

    private static void pegsPrice() {
        due.by("5: OUTSIDE: price (1 to 1000)");
        twins.bounds("peg(7, price)", () -> Scenes.withPegs(3), (x, n) -> x.peg(7, n),
            new int[] {1, 1000}, new long[] {1, 1}, OUTSIDE);
        for (int price : new int[] {1, 1000}) {
            WireRow x = new WireRow();
            x.peg(7, price);
            due.is("about(0, 1)", x.about(0, 1), price);
            x.mast(0, 0);
            due.is("price()", x.price(), price);
        }
    }

    private static void pegsNumberByPlaces() {
        due.by("5: its number, by places, of all there are now");
        WireRow x = new WireRow();
        due.is("peg(500, 1), the first of all", x.peg(500, 1), 0);
        due.is("peg(499, 2), ahead", x.peg(499, 2), 0);
        due.is("peg(501, 3), behind", x.peg(501, 3), 2);
        due.is("peg(0, 4), ahead of all", x.peg(0, 4), 0);
        due.is("peg(1000, 5), behind all", x.peg(1000, 5), 4);
        due.is("peg(1, 6), between", x.peg(1, 6), 1);
        int[] places = {0, 1, 499, 500, 501, 1000};
        int[] prices = {4, 6, 2, 1, 3, 5};
        for (int p = 0; p < places.length; p++) {
            due.is("about(" + p + ", 0)", x.about(p, 0), places[p]);
            due.is("about(" + p + ", 1)", x.about(p, 1), prices[p]);
        }
        // a peg that came late has its own place in a bend too
        WireRow y = new WireRow();
        y.bend(0, 1000, 10);
        y.peg(200, 1);
        y.peg(0, 1);
        y.peg(100, 1);
        for (int p = 0; p < 3; p++) y.mast(p, p);
        for (int p = 0; p < 3; p++) due.is("off(" + 100 * p + ", 0)", y.off(100 * p, 0), 2000 * p);
        due.is("off(150, 0)", y.off(150, 0), 3000 + 10 * 50 * 50);
    }

    private static void pegWithMasts() {
        due.by("5: STATE: MASTS stand");
        twins.refused("peg with a mast", () -> Scenes.withMasts(10, 5), x -> x.peg(20, 1), STATE);
        twins.refused("peg with three masts", Scenes::line, x -> x.peg(1500, 1), STATE);
        WireRow x = Scenes.withMasts(10, 5, 30, 6);
        x.fell(0);
        due.is("peg with one mast left", x.peg(20, 1), STATE);
        x.fell(1);
        due.is("peg with none left", x.peg(20, 1), 1);
        told("three pegs", x, 0, 3, 0, 0, 4, 4000, 0);
        for (int p = 0; p < 3; p++) due.is("about(" + p + ", 3)", x.about(p, 3), 0);
    }

    private static void fortyPegsAtMost() {
        due.by("5: PEGS, 40 at most: FULL");
        WireRow x = new WireRow();
        for (int i = 0; i < 40; i++) due.is("peg " + i, x.peg(10 * i, 1), i);
        for (int place : new int[] {5, 395, 1000}) {
            twins.refused("a peg too many at " + place, Scenes::fortyPegs, y -> y.peg(place, 1), FULL);
        }
        due.is("clear()", x.clear(), 40);
        for (int i = 0; i < 40; i++) due.is("peg " + i + " when cleared", x.peg(1000 - i, 1), 0);
        due.is("a peg too many then", x.peg(0, 1), FULL);
        told("forty pegs", x, 0, 40, 0, 0, 4, 1000, 0);
    }

    private static void pegWhereThereIsOne() {
        due.by("5: NO: there is one");
        for (int place : new int[] {10, 11, 30}) {
            twins.refused("peg(" + place + ", 9) again", () -> Scenes.withPegs(10, 11, 30), x -> x.peg(place, 9), NO);
        }
        WireRow x = Scenes.withPegs(10, 30);
        due.is("peg(9, 1), just ahead", x.peg(9, 1), 0);
        due.is("peg(31, 1), just behind", x.peg(31, 1), 3);
        due.is("peg(29, 1), just ahead", x.peg(29, 1), 2);
    }

    private static void mastAtAPeg() {
        due.by("6: UNKNOWN");
        twins.bounds("mast(peg, 5)", () -> Scenes.withPegs(10, 20, 30), (x, p) -> x.mast(p, 5),
            new int[] {0, 2}, new long[] {1, 1}, UNKNOWN);
        twins.bounds("mast(peg, 5) of forty", Scenes::fortyPegs, (x, p) -> x.mast(p, 5),
            new int[] {0, 39}, new long[] {1, 1}, UNKNOWN);
        twins.refused("mast(0, 5) with no peg", WireRow::new, x -> x.mast(0, 5), UNKNOWN);
        WireRow x = Scenes.fortyPegs();
        x.clear();
        due.is("mast(0, 5) when cleared", x.mast(0, 5), UNKNOWN);
    }

    private static void mastsSide() {
        due.by("6: OUTSIDE: SIDE (-400 to 400)");
        twins.bounds("mast(1, side)", Scenes::line, (x, s) -> x.mast(1, s),
            new int[] {-400, 400}, new long[] {4, 4}, OUTSIDE);
        twins.beyond("mast(2, side) where there is one", Scenes::line, (x, s) -> x.mast(2, s), -400, 400, OUTSIDE);
        for (int side : new int[] {-400, 400}) {
            WireRow x = Scenes.withMasts(0, side, 10, side);
            due.is("about(1, 3)", x.about(1, 3), side);
            due.is("off(10, 0)", x.off(10, 0), 2000 * side);
        }
    }

    private static void mastWhereThereIsOne() {
        due.by("6: it has that SIDE then, if there is one");
        WireRow x = Scenes.line();
        due.is("mast(2, 7)", x.mast(2, 7), 3);
        due.is("about(2, 3)", x.about(2, 3), 7);
        due.is("mast(2, 7) again", x.mast(2, 7), 3);
        due.is("price()", x.price(), 9);
        WireRow y = Scenes.fortyMasts();
        due.is("mast(39, -1) of forty", y.mast(39, -1), 40);
        told("forty masts", y, 0, 40, 40, 39, 4, 1000, 390);
    }

    private static void fellAtAPeg() {
        due.by("7: UNKNOWN");
        twins.bounds("fell() of forty", Scenes::fortyMasts, WireRow::fell, new int[] {0, 39}, new long[] {39, 39}, UNKNOWN);
        twins.beyond("fell() with no mast", () -> Scenes.withPegs(10, 20), WireRow::fell, 0, 1, UNKNOWN);
        twins.refused("fell(0) with no peg", WireRow::new, x -> x.fell(0), UNKNOWN);
    }

    private static void fellWhereThereIsNone() {
        due.by("7: STATE: there is none");
        for (int p : new int[] {1, 3}) {
            twins.refused("fell(" + p + ")", Scenes::line, x -> x.fell(p), STATE);
        }
        WireRow x = Scenes.line();
        due.is("fell(4)", x.fell(4), 2);
        due.is("fell(4) again", x.fell(4), STATE);
        due.is("fell(0)", x.fell(0), 1);
        due.is("fell(2), the last one", x.fell(2), 0);
        due.is("fell(2) again", x.fell(2), STATE);
        told("none", x, 2, 5, 0, 0, 5, 2000, 0);
    }

    private static void clearOfNothingAndOfAll() {
        due.by("8: how many PEGS there were");
        due.is("clear() of nothing", new WireRow().clear(), 0);
        due.is("clear() of bends alone", Scenes.eightBends().clear(), 0);
        due.is("clear() of one peg", Scenes.withPegs(7).clear(), 1);
        due.is("clear() of three masts at five pegs", Scenes.line().clear(), 5);
        WireRow x = Scenes.fortyMasts();
        due.is("clear() of forty", x.clear(), 40);
        due.is("clear() again", x.clear(), 0);
    }

    private static void clearLeavesTheRest() {
        due.by("8: all PEGS, MASTS and BENDS go");
        WireRow x = Scenes.line();
        x.clear();
        told("cleared", x, 0, 0, 0, 0, 5, 2000, 0);
        due.is("aside(2000)", x.aside(2000), 0);
        due.is("price()", x.price(), 0);
        due.is("worst()", x.worst(), -6);
        due.is("kept(0)", x.kept(0), UNKNOWN);
        due.is("about(0, 0)", x.about(0, 0), UNKNOWN);
        for (int place : new int[] {0, 520, 1041}) x.peg(place, 1);
        for (int p = 0; p < 3; p++) {
            due.is("no mast is left at a new peg: about(" + p + ", 2)", x.about(p, 2), 0);
            due.is("nor its side: about(" + p + ", 3)", x.about(p, 3), 0);
        }
        WireRow y = Scenes.line();
        Scenes.setAll(y);
        y.clear();
        WireRow twin = new WireRow();
        twin.length(2000);
        Scenes.setAll(twin);
        twins.alike("all is cleared, but no number of the line, bow and carrier", withLine(y), withLine(twin));
    }

    private static void aboutAPeg() {
        due.by("9: UNKNOWN");
        for (int what = 0; what <= 3; what++) {
            int asked = what;
            twins.beyond("about(peg, " + what + ")", Scenes::line, (x, p) -> x.about(p, asked), 0, 4, UNKNOWN);
            twins.refused("about(0, " + what + ") with no peg", WireRow::new, x -> x.about(0, asked), UNKNOWN);
        }
        twins.bounds("about(peg, 0) of forty", Scenes::fortyPegs, (x, p) -> x.about(p, 0),
            new int[] {0, 39}, new long[] {0, 390}, UNKNOWN);
    }

    private static void aboutWhat() {
        due.by("9: OUTSIDE (-1000)");
        twins.bounds("about(2, what)", Scenes::line, (x, what) -> x.about(2, what),
            new int[] {0, 1, 2, 3}, new long[] {500, 2, 1, -150}, ABOUT_OUTSIDE);
        twins.beyond("about(1, what) with no mast", Scenes::line, (x, what) -> x.about(1, what), 0, 3, ABOUT_OUTSIDE);
    }

    private static void aboutNoMast() {
        due.by("9: whether a MAST stands there (1, 0), 3 its SIDE (0)");
        WireRow x = Scenes.line();
        due.is("about(1, 2)", x.about(1, 2), 0);
        due.is("about(1, 3)", x.about(1, 3), 0);
        due.is("about(4, 2) of a mast with side 0", x.about(4, 2), 1);
        due.is("about(4, 3) of a mast with side 0", x.about(4, 3), 0);
        x.fell(0);
        due.is("about(0, 2) of a felled one", x.about(0, 2), 0);
        due.is("about(0, 3) of a felled one", x.about(0, 3), 0);
    }

    private static void aboutSidesLikeRefusals() {
        due.by("9: 3 its SIDE");
        WireRow x = Scenes.withMasts(0, -1, 10, -2, 20, -400);
        due.is("about(0, 3)", x.about(0, 3), -1);
        due.is("about(1, 3)", x.about(1, 3), -2);
        due.is("about(2, 3)", x.about(2, 3), -400);
    }
}
