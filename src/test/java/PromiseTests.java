/** For each promise of the document: ordinary inputs, the edges that it names, and wrong inputs. */
public final class PromiseTests {
    private static final int BEYOND = -1000001;
    private static final int NONE = -1000002;
    private static final int STATE = -1000003;
    private static final int FULL = -1000004;
    private static final int KIND = -1000005;

    private static int wrong = 0;
    private static int promise = 0;

    private static void due(String call, int got, int want) {
        if (got != want) {
            wrong++;
            System.out.println("promise " + promise + ": " + call + " answered " + got + ", due is " + want);
        }
    }

    public static void main(String[] args) {
        promise = 1; newObject();
        promise = 2; buoy();
        promise = 3; boat();
        promise = 4; as();
        promise = 5; tide();
        promise = 6; winds();
        promise = 7; about();
        promise = 8; of();
        promise = 9; out();
        promise = 10; fits();
        promise = 11; touch();
        promise = 12; moor();
        promise = 13; leave();
        promise = 14; most();
        promise = 15; waits();
        promise = 16; away();
        promise = 17; offer();
        promise = 18; answer();
        promise = 19; stays();
        promise = 20; rather();
        promise = 21; content();
        promise = 22; ring();
        promise = 23; swap();
        promise = 24; years();
        promise = 25; look();
        promise = 26; next();
        promise = 27; renew();
        promise = 28; storm();
        promise = 29; fled();
        promise = 30; rate();
        promise = 31; dues();
        promise = 32; tell();
        promise = 33; check();
        promise = 34; count();
        promise = 35; found();
        System.out.println(wrong == 0 ? "all promises are kept" : wrong + " answers are not as due");
        if (wrong != 0) {
            System.exit(1);
        }
    }

    /** Four BUOYS in the corners, far enough apart for four BOATS of length 20, which lie there. */
    private static BayMoorings corners() {
        BayMoorings x = new BayMoorings();
        x.buoy(0, 0, 50, 300);
        x.buoy(999, 0, 50, 300);
        x.buoy(0, 999, 50, 300);
        x.buoy(999, 999, 50, 300);
        for (int n = 0; n < 4; n++) {
            x.boat(0, 20, 1);
            x.moor(n, n);
        }
        return x;
    }

    /** As many small BUOYS in a row, 80 apart, at which small BOATS never TOUCH. */
    private static BayMoorings row(int buoys) {
        BayMoorings x = new BayMoorings();
        for (int n = 0; n < buoys; n++) {
            x.buoy(80 * n, 0, 10, 10);
        }
        return x;
    }

    private static void newObject() {
        BayMoorings x = new BayMoorings();
        for (int what = 0; what <= 5; what++) {
            due("count(" + what + ")", x.count(what), 0);
        }
        due("count(6)", x.count(6), 8);
        for (int k = 1; k <= 5; k++) {
            due("found(" + k + ")", x.found(k), 0);
        }
        due("dues()", x.dues(), 0);
        due("swap()", x.swap(), 0);
        due("check()", x.check(), 0);
        due("storm(100)", x.storm(100), 0);
        due("years(30)", x.years(30), 0);
        due("next()", x.next(), NONE);
        due("about(0, 0)", x.about(0, 0), BEYOND);
        due("of(0, 0)", x.of(0, 0), BEYOND);
        BayMoorings y = new BayMoorings();
        x.buoy(1, 1, 1, 10);
        due("another object's count(0)", y.count(0), 0);
    }

    private static void buoy() {
        BayMoorings x = new BayMoorings();
        int[][] beyond = {
            {-1, 0, 0, 10}, {1000, 0, 0, 10}, {0, -1, 0, 10}, {0, 1000, 0, 10}, {0, 0, -1, 10}, {0, 0, 301, 10},
            {0, 0, 0, 9}, {0, 0, 0, 401}, {Integer.MIN_VALUE, 0, 0, 10}, {0, 0, 0, Integer.MAX_VALUE},
        };
        for (int[] a : beyond) {
            due("buoy", x.buoy(a[0], a[1], a[2], a[3]), BEYOND);
        }
        due("count(0)", x.count(0), 0);
        due("buoy(0, 0, 0, 10)", x.buoy(0, 0, 0, 10), 0);
        due("buoy(999, 999, 300, 400)", x.buoy(999, 999, 300, 400), 1);
        for (int n = 2; n < 12; n++) {
            due("buoy", x.buoy(n, 2 * n, 3 * n, 10 + n), n);
        }
        due("the 13th buoy", x.buoy(0, 0, 0, 10), FULL);
        due("the 13th buoy, beyond", x.buoy(0, 0, 0, 9), BEYOND);
        due("count(0)", x.count(0), 12);
        due("of(1, 0)", x.of(1, 0), 999);
        due("of(11, 1)", x.of(11, 1), 22);
    }

    private static void boat() {
        BayMoorings x = new BayMoorings();
        int[][] beyond = {
            {-1, 10, 0}, {3, 10, 0}, {0, 9, 0}, {0, 301, 0}, {0, 10, -1}, {0, 10, 101}, {0, Integer.MIN_VALUE, 0},
        };
        for (int[] a : beyond) {
            due("boat", x.boat(a[0], a[1], a[2]), BEYOND);
        }
        due("count(1)", x.count(1), 0);
        due("boat(0, 10, 0)", x.boat(0, 10, 0), 0);
        due("boat(2, 300, 100)", x.boat(2, 300, 100), 1);
        for (int n = 2; n < 16; n++) {
            due("boat", x.boat(1, 10 + n, n), n);
        }
        due("the 17th boat", x.boat(0, 10, 0), FULL);
        due("the 17th boat, beyond", x.boat(0, 9, 0), BEYOND);
        due("count(1)", x.count(1), 16);
        due("about(15, 1)", x.about(15, 1), 25);
    }

    private static void as() {
        BayMoorings x = new BayMoorings();
        x.boat(0, 81, 0);
        x.boat(1, 81, 0);
        x.boat(2, 81, 0);
        due("as(0, 0)", x.as(0, 0), 25);
        due("as(1, 1)", x.as(1, 1), 37);
        due("as(1, 0)", x.as(1, 0), 37);
        due("as(2, 2)", x.as(2, 2), 25);
        due("as(2, 0)", x.as(2, 0), 25);
        due("as(0, 1)", x.as(0, 1), KIND);
        due("as(0, 2)", x.as(0, 2), KIND);
        due("as(1, 2)", x.as(1, 2), KIND);
        due("as(2, 1)", x.as(2, 1), KIND);
        due("as(3, 0)", x.as(3, 0), BEYOND);
        due("as(-1, 0)", x.as(-1, 0), BEYOND);
        due("as(0, 3)", x.as(0, 3), BEYOND);
        due("as(0, -1)", x.as(0, -1), BEYOND);
        due("found(5)", x.found(5), 4);
    }

    private static void tide() {
        BayMoorings x = new BayMoorings();
        x.buoy(0, 0, 0, 100);
        x.boat(0, 10, 5);
        due("tide(0, 200)", x.tide(0, 200), 0);
        due("tide(0, 7)", x.tide(0, 7), 200);
        due("tide(23, 9)", x.tide(23, 9), 0);
        due("tide(23, 0)", x.tide(23, 0), 9);
        due("tide(24, 0)", x.tide(24, 0), BEYOND);
        due("tide(-1, 0)", x.tide(-1, 0), BEYOND);
        due("tide(0, 201)", x.tide(0, 201), BEYOND);
        due("tide(0, -1)", x.tide(0, -1), BEYOND);
        due("tide(0, 7)", x.tide(0, 7), 7);
        for (int hour = 0; hour < 24; hour++) {
            due("fits(0, 0)", x.fits(0, 0), 0);
            x.tide(hour, 5);
        }
        due("fits(0, 0) with all tides", x.fits(0, 0), 1);
        x.tide(11, 4);
        due("fits(0, 0) with one less", x.fits(0, 0), 0);
    }

    private static void winds() {
        BayMoorings x = new BayMoorings();
        due("winds(1)", x.winds(1), 255);
        due("winds(255)", x.winds(255), 1);
        due("winds(0)", x.winds(0), BEYOND);
        due("winds(256)", x.winds(256), BEYOND);
        due("winds(-1)", x.winds(-1), BEYOND);
        due("winds(128)", x.winds(128), 255);
        due("count(6)", x.count(6), 1);
    }

    private static void about() {
        BayMoorings x = row(3);
        x.boat(1, 10, 7);
        x.boat(2, 10, 3);
        due("kind", x.about(0, 0), 1);
        due("kind", x.about(1, 0), 2);
        due("length", x.about(0, 1), 10);
        due("draught", x.about(0, 2), 7);
        due("buoy", x.about(0, 3), -1);
        due("place", x.about(0, 4), -1);
        due("dues", x.about(0, 5), 0);
        x.wait(1);
        x.wait(0);
        due("place", x.about(0, 4), 1);
        due("place", x.about(1, 4), 0);
        due("moor(0, 2)", x.moor(0, 2), 1);
        due("buoy", x.about(0, 3), 2);
        due("place", x.about(0, 4), -1);
        due("dues", x.about(0, 5), 4);
        due("about(0, 6)", x.about(0, 6), BEYOND);
        due("about(0, -1)", x.about(0, -1), BEYOND);
        due("about(2, 0)", x.about(2, 0), BEYOND);
        due("about(-1, 0)", x.about(-1, 0), BEYOND);
    }

    private static void of() {
        BayMoorings x = new BayMoorings();
        x.buoy(11, 22, 33, 44);
        x.boat(0, 10, 0);
        int[] fresh = {11, 22, 33, 44, -1, 0, 0, 0};
        for (int what = 0; what < 8; what++) {
            due("of(0, " + what + ")", x.of(0, what), fresh[what]);
        }
        x.moor(0, 0);
        due("its boat", x.of(0, 4), 0);
        x.years(19);
        due("low", x.of(0, 5), 57);
        due("high", x.of(0, 6), 100);
        due("parted at 57", x.of(0, 7), 0);
        x.look(0, 59, 1);
        due("parted at 59", x.of(0, 7), 0);
        x.look(0, 60, 1);
        due("parted at 60", x.of(0, 7), 1);
        due("of(0, 8)", x.of(0, 8), BEYOND);
        due("of(0, -1)", x.of(0, -1), BEYOND);
        due("of(1, 0)", x.of(1, 0), BEYOND);
        due("of(-1, 0)", x.of(-1, 0), BEYOND);
    }

    private static void out() {
        BayMoorings x = new BayMoorings();
        x.buoy(0, 0, 3, 10);
        x.buoy(0, 0, 0, 400);
        x.boat(0, 10, 0);
        x.boat(1, 11, 0);
        x.boat(2, 12, 0);
        due("root of 91", x.out(0, 0, 0), 19);
        due("twin", x.out(1, 0, 0), 25);
        due("dry", x.out(2, 0, 0), 21);
        due("whole chain", x.out(0, 1, 23), 410);
        x.tide(4, 5);
        due("root of 36", x.out(0, 0, 4), 16);
        due("the hour beside", x.out(0, 0, 5), 19);
        x.tide(4, 6);
        due("root of 19", x.out(0, 0, 4), 14);
        x.tide(4, 7);
        due("w is the chain", x.out(0, 0, 4), 10);
        x.tide(4, 200);
        due("w is more", x.out(0, 0, 4), 10);
        x.buoy(0, 0, 100, 301);
        due("a buoy that comes after the tide", x.out(0, 2, 4), 34);
        due("out(3, 0, 0)", x.out(3, 0, 0), BEYOND);
        due("out(-1, 0, 0)", x.out(-1, 0, 0), BEYOND);
        due("out(0, 3, 0)", x.out(0, 3, 0), BEYOND);
        due("out(0, -1, 0)", x.out(0, -1, 0), BEYOND);
        due("out(0, 0, 24)", x.out(0, 0, 24), BEYOND);
        due("out(0, 0, -1)", x.out(0, 0, -1), BEYOND);
    }

    private static void fits() {
        BayMoorings x = new BayMoorings();
        x.buoy(0, 0, 20, 50);
        x.boat(0, 50, 20);
        x.boat(0, 51, 0);
        x.boat(0, 10, 21);
        x.boat(1, 50, 20);
        x.boat(2, 10, 41);
        x.boat(2, 10, 42);
        int[] want = {1, 0, 0, 1, 1, 0};
        for (int n = 0; n < want.length; n++) {
            due("fits(" + n + ", 0)", x.fits(n, 0), want[n]);
        }
        for (int hour = 0; hour < 23; hour++) {
            x.tide(hour, 1);
        }
        due("one hour is too low", x.fits(2, 0), 0);
        x.tide(23, 1);
        due("all hours are enough", x.fits(2, 0), 1);
        due("fits(6, 0)", x.fits(6, 0), BEYOND);
        due("fits(0, 1)", x.fits(0, 1), BEYOND);
        due("fits(-1, 0)", x.fits(-1, 0), BEYOND);
        due("fits(0, -1)", x.fits(0, -1), BEYOND);
    }

    /** Whether BOATS of length 10 and OUT of 10 may TOUCH, with BUOYS this far apart. */
    private static int touchApart(int dx, int dy, int winds) {
        BayMoorings x = new BayMoorings();
        x.buoy(500, 500, 50, 50);
        x.buoy(500 + dx, 500 + dy, 50, 50);
        x.boat(0, 10, 0);
        x.boat(0, 10, 0);
        x.winds(winds);
        return x.touch(0, 0, 1, 1);
    }

    private static void touch() {
        due("same wind, 19 apart", touchApart(19, -19, 1), 0);
        due("same wind, 20 apart", touchApart(20, 0, 1), -1);
        due("same wind, 20 apart along y", touchApart(0, -20, 1), -1);
        due("winds beside: (0, -10) and (7 - 26, -7)", touchApart(-26, 0, 3), 0);
        due("winds beside: (0, -10) and (7 - 27, -7)", touchApart(-27, 0, 3), -1);
        due("winds beside: (7, -7) and (26, -10)", touchApart(26, 0, 3), 0);
        due("winds beside: 0 and 7", touchApart(26, 0, 129), 0);
        due("winds beside: 0 and 7", touchApart(27, 0, 129), -1);
        due("winds that aren't beside", touchApart(26, 0, 1 + 4), -1);
        due("winds that aren't beside", touchApart(26, 0, 1 + 64), -1);
        for (int wind = 0; wind < 8; wind++) {
            due("same wind " + wind, touchApart(19, 0, 1 << wind), 0);
            due("same wind " + wind, touchApart(20, 0, 1 << wind), -1);
        }
        touchByEachWind();
        touchByDifferentOuts();
        touchByHours();
        BayMoorings x = corners();
        due("no such boat", x.touch(4, 0, 1, 1), BEYOND);
        due("no such boat", x.touch(0, 0, -1, 1), BEYOND);
        due("no such buoy", x.touch(0, 4, 1, 1), BEYOND);
        due("no such buoy", x.touch(0, 0, 1, -1), BEYOND);
        due("the same boat", x.touch(1, 0, 1, 1), BEYOND);
        due("the same buoy", x.touch(0, 1, 1, 1), BEYOND);
        due("where they lie doesn't matter", x.touch(2, 3, 3, 0), -1);
    }

    /** OUTS of 10 and 90 (7 and 63 along both), with BUOYS so far apart that one WIND brings the far ends together. */
    private static void touchByEachWind() {
        int[][] away = {{0, 80}, {-56, 56}, {-80, 0}, {-56, -56}, {0, -80}, {56, -56}, {80, 0}, {56, 56}};
        for (int at = 0; at < 8; at++) {
            BayMoorings x = new BayMoorings();
            x.buoy(500, 500, 90, 90);
            x.buoy(500 + away[at][0], 500 + away[at][1], 90, 90);
            x.boat(0, 10, 0);
            x.boat(0, 90, 0);
            for (int wind = 0; wind < 8; wind++) {
                x.winds(1 << wind);
                due("by wind " + wind + " at " + at, x.touch(0, 0, 1, 1), wind == at ? 0 : -1);
            }
        }
    }

    private static void touchByDifferentOuts() {
        BayMoorings x = new BayMoorings();
        x.buoy(500, 500, 0, 100);
        x.buoy(619, 500, 0, 10);
        x.buoy(609, 391, 0, 10);
        x.buoy(610, 500, 0, 10);
        x.boat(0, 20, 0);
        x.boat(0, 100, 0);
        x.winds(1);
        due("outs 120 and 110, buoys 119 apart", x.touch(0, 0, 1, 1), -1);
        due("outs 120 and 110, buoys 109 apart", x.touch(0, 0, 1, 2), 0);
        due("the other way round", x.touch(1, 2, 0, 0), 0);
        due("outs 120 and 110, buoys 110 apart", x.touch(0, 0, 1, 3), -1);
    }

    private static void touchByHours() {
        BayMoorings x = new BayMoorings();
        x.buoy(0, 0, 0, 50);
        x.buoy(60, 0, 0, 50);
        x.boat(0, 10, 0);
        x.boat(0, 10, 0);
        x.winds(1);
        due("out 60 at all hours", x.touch(0, 0, 1, 1), -1);
        x.tide(9, 1);
        due("out 59 at hour 9", x.touch(0, 0, 1, 1), -1);
        x.buoy(59, 0, 0, 50);
        due("out 60, apart 59", x.touch(0, 0, 1, 2), 0);
        for (int hour = 0; hour < 24; hour++) {
            x.tide(hour, 30);
        }
        due("out 50", x.touch(0, 0, 1, 2), -1);
        x.tide(20, 0);
        due("only at hour 20", x.touch(0, 0, 1, 2), 20);
        x.tide(13, 0);
        due("first at hour 13", x.touch(0, 0, 1, 2), 13);
        x.tide(13, 30);
        due("again at hour 20", x.touch(0, 0, 1, 2), 20);
    }

    private static void moor() {
        BayMoorings x = row(3);
        x.buoy(0, 10, 10, 10);
        x.boat(0, 10, 10);
        x.boat(0, 10, 10);
        x.boat(0, 10, 11);
        x.wait(0);
        x.wait(1);
        due("moor(3, 0)", x.moor(3, 0), BEYOND);
        due("moor(0, 4)", x.moor(0, 4), BEYOND);
        due("moor(-1, 0)", x.moor(-1, 0), BEYOND);
        due("moor(0, -1)", x.moor(0, -1), BEYOND);
        due("moor(2, 0): too deep", x.moor(2, 0), NONE);
        due("moor(0, 0)", x.moor(0, 0), 1);
        due("it waits no more", x.about(0, 4), -1);
        due("the next is first", x.about(1, 4), 0);
        due("it lies", x.moor(0, 1), STATE);
        due("it has one", x.moor(1, 0), STATE);
        due("state comes first", x.moor(2, 0), STATE);
        due("it may touch", x.moor(1, 3), NONE);
        due("it still waits", x.about(1, 4), 0);
        due("moor(1, 1)", x.moor(1, 1), 1);
        due("of(1, 4)", x.of(1, 4), 1);
        due("count(2)", x.count(2), 2);
        due("count(3)", x.count(3), 0);
    }

    private static void leave() {
        BayMoorings x = corners();
        due("leave(4)", x.leave(4), BEYOND);
        due("leave(-1)", x.leave(-1), BEYOND);
        due("leave(2)", x.leave(2), 2);
        due("leave(2)", x.leave(2), STATE);
        due("of(2, 4)", x.of(2, 4), -1);
        due("about(2, 3)", x.about(2, 3), -1);
        due("count(2)", x.count(2), 3);
        due("moor(2, 2)", x.moor(2, 2), 1);
    }

    private static void most() {
        BayMoorings x = row(5);
        for (int n = 0; n < 7; n++) {
            x.boat(0, 10, n == 1 ? 11 : 10);
        }
        due("how many of five", x.most(31, 0), 4);
        int[] want = {0, -1, 1, 2, 3};
        for (int i = 0; i < 5; i++) {
            due("of five, " + i, x.most(31, 1 + i), want[i]);
        }
        due("nothing changes", x.count(2), 0);
        due("by numbers", x.most(1 << 6 | 1 << 3, 2), 1);
        due("six", x.most(63, 0), BEYOND);
        due("a boat that isn't", x.most(1 << 7, 0), BEYOND);
        due("a negative number", x.most(-1, 0), BEYOND);
        due("the highest bit", x.most(Integer.MIN_VALUE, 0), BEYOND);
        due("what", x.most(31, 6), BEYOND);
        due("what", x.most(31, -1), BEYOND);
        due("of one that isn't there", x.most(3, 3), BEYOND);
        due("none asked", x.most(0, 0), 0);
        due("none asked, what", x.most(0, 1), BEYOND);
        x.moor(6, 0);
        due("one lies", x.most(1 << 6, 0), STATE);
        due("beyond comes first", x.most(1 << 6, 2), BEYOND);
        due("the least that is free", x.most(1, 1), 1);
        mostPrefersMany();
    }

    /** BOAT 0 could have BUOY 0, but there it bars BUOY 1, the only one in which BOAT 1 FITS. */
    private static void mostPrefersMany() {
        BayMoorings x = new BayMoorings();
        x.buoy(0, 0, 10, 10);
        x.buoy(5, 0, 20, 10);
        x.buoy(500, 0, 10, 10);
        x.boat(0, 10, 10);
        x.boat(0, 10, 20);
        due("alone", x.most(1, 1), 0);
        due("both", x.most(3, 0), 2);
        due("the first", x.most(3, 1), 2);
        due("the second", x.most(3, 2), 1);
        x.boat(0, 10, 10);
        x.moor(2, 2);
        due("one of both", x.most(3, 0), 1);
        due("the first has it", x.most(3, 1), 0);
        due("the second has none", x.most(3, 2), -1);
        x.leave(2);
        x.moor(2, 0);
        due("beside one that lies", x.most(3, 0), 1);
        due("the first", x.most(3, 1), 2);
    }

    private static void waits() {
        BayMoorings x = row(1);
        for (int n = 0; n < 12; n++) {
            x.boat(0, 10, 10);
        }
        x.moor(11, 0);
        for (int n = 0; n < 10; n++) {
            due("wait(" + n + ")", x.wait(n), n + 1);
        }
        due("it waits", x.wait(3), STATE);
        due("it lies", x.wait(11), STATE);
        due("full", x.wait(10), FULL);
        due("wait(12)", x.wait(12), BEYOND);
        due("wait(-1)", x.wait(-1), BEYOND);
        due("count(3)", x.count(3), 10);
        x.away(0);
        due("to the end", x.wait(10), 10);
        due("about(10, 4)", x.about(10, 4), 9);
    }

    private static void away() {
        BayMoorings x = row(1);
        for (int n = 0; n < 3; n++) {
            x.boat(0, 10, 10);
            x.wait(n);
        }
        due("away(3)", x.away(3), BEYOND);
        due("away(-1)", x.away(-1), BEYOND);
        due("away(1)", x.away(1), 1);
        due("away(1)", x.away(1), STATE);
        due("away(2)", x.away(2), 1);
        due("away(0)", x.away(0), 0);
        due("count(3)", x.count(3), 0);
    }

    private static void offer() {
        BayMoorings x = row(2);
        x.buoy(5, 0, 10, 10);
        x.boat(0, 11, 0);
        x.boat(0, 10, 0);
        x.boat(0, 10, 0);
        due("nobody waits", x.offer(0), NONE);
        x.wait(0);
        due("it doesn't fit", x.offer(0), NONE);
        x.wait(2);
        x.wait(1);
        due("the first that fits", x.offer(0), 2);
        due("nothing changes", x.offer(0), 2);
        x.moor(2, 0);
        due("it has one", x.offer(0), STATE);
        due("it may touch", x.offer(2), NONE);
        due("offer(1)", x.offer(1), 1);
        due("offer(3)", x.offer(3), BEYOND);
        due("offer(-1)", x.offer(-1), BEYOND);
    }

    private static void answer() {
        BayMoorings x = row(3);
        for (int n = 0; n < 3; n++) {
            x.boat(0, 10, 0);
            x.wait(n);
        }
        due("answer(3, 1)", x.answer(3, 1), BEYOND);
        due("answer(-1, 1)", x.answer(-1, 1), BEYOND);
        due("answer(0, 2)", x.answer(0, 2), BEYOND);
        due("answer(0, -1)", x.answer(0, -1), BEYOND);
        due("refused", x.answer(0, 0), 0);
        due("it stays", x.about(0, 4), 0);
        due("another buoy is still offered to it", x.offer(1), 0);
        due("the next takes it", x.answer(0, 1), 1);
        due("it lies", x.about(1, 3), 0);
        due("it waits no more", x.count(3), 2);
        due("the buoy has one", x.answer(0, 1), STATE);
        due("the buoy has one, refused", x.answer(0, 0), STATE);
        x.leave(1);
        due("what was refused stays so", x.answer(0, 0), 2);
        due("none is left", x.answer(0, 1), NONE);
        due("none is left, refused", x.answer(0, 0), NONE);
        x.away(0);
        x.wait(0);
        due("it came anew", x.offer(0), 0);
        due("the other came no more", x.about(2, 4), 0);
    }

    private static void stays() {
        BayMoorings x = row(1);
        for (int n = 0; n < 3; n++) {
            x.boat(0, 10, 0);
            x.wait(n);
        }
        due("stays(2)", x.stays(2), BEYOND);
        due("stays(-1)", x.stays(-1), BEYOND);
        due("stays(0)", x.stays(0), 1);
        due("refused", x.answer(0, 0), 0);
        due("to the end", x.about(0, 4), 2);
        due("the second is first", x.about(1, 4), 0);
        due("refused", x.answer(0, 0), 1);
        due("to the end", x.about(1, 4), 2);
        due("stays(1)", x.stays(1), 0);
        due("refused", x.answer(0, 0), 2);
        due("it stays", x.about(2, 4), 0);
        due("the end isn't coming anew", x.offer(0), NONE);
        due("stays(1)", x.stays(1), 1);
    }

    private static void rather() {
        BayMoorings x = row(6);
        x.boat(0, 10, 0);
        x.boat(0, 10, 0);
        x.moor(0, 0);
        for (int b = 0; b < 4; b++) {
            due("rather(0, " + b + ")", x.rather(0, b), b + 1);
        }
        due("it is told", x.rather(0, 3), STATE);
        due("full", x.rather(0, 4), FULL);
        due("rather(2, 0)", x.rather(2, 0), BEYOND);
        due("rather(-1, 0)", x.rather(-1, 0), BEYOND);
        due("rather(0, 6)", x.rather(0, 6), BEYOND);
        due("rather(0, -1)", x.rather(0, -1), BEYOND);
        due("one that lies nowhere", x.rather(1, 5), 1);
    }

    private static void content() {
        BayMoorings x = corners();
        due("content(0)", x.content(0), 0);
        x.rather(0, 1);
        x.rather(0, 2);
        x.rather(1, 0);
        due("content(0)", x.content(0), 2);
        due("content(0)", x.content(0), 0);
        due("ring(1)", x.ring(1), 1);
        due("told anew", x.rather(0, 1), 1);
        due("content(4)", x.content(4), BEYOND);
        due("content(-1)", x.content(-1), BEYOND);
    }

    private static void ring() {
        BayMoorings x = corners();
        due("its own", x.ring(0), 0);
        x.rather(0, 1);
        due("no ring", x.ring(0), 0);
        x.rather(1, 2);
        x.rather(1, 0);
        x.rather(2, 0);
        x.rather(3, 0);
        int[] three = {1, 2, 0, 3};
        for (int n = 0; n < 4; n++) {
            due("ring(" + n + ")", x.ring(n), three[n]);
        }
        x.content(2);
        int[] two = {1, 0, 2, 3};
        for (int n = 0; n < 4; n++) {
            due("ring(" + n + ")", x.ring(n), two[n]);
        }
        x.leave(0);
        due("it lies nowhere", x.ring(0), STATE);
        due("a free buoy isn't pointed at", x.ring(3), 3);
        due("ring(4)", x.ring(4), BEYOND);
        due("ring(-1)", x.ring(-1), BEYOND);
        ringThatDoesNotFit();
    }

    private static void ringThatDoesNotFit() {
        BayMoorings x = new BayMoorings();
        x.buoy(0, 0, 20, 10);
        x.buoy(300, 0, 10, 10);
        x.buoy(600, 0, 20, 10);
        x.boat(0, 10, 20);
        x.boat(0, 10, 10);
        x.boat(0, 10, 20);
        for (int n = 0; n < 3; n++) {
            x.moor(n, n);
        }
        x.rather(0, 1);
        x.rather(0, 2);
        x.rather(1, 0);
        x.rather(2, 0);
        due("the first doesn't fit, the second does", x.ring(0), 2);
        due("who wanted it stays", x.ring(1), 1);
        due("the other of the ring", x.ring(2), 0);
        for (int hour = 0; hour < 24; hour++) {
            x.tide(hour, 10);
        }
        due("with more water the first", x.ring(0), 1);
        due("with more water", x.ring(1), 0);
        due("with more water", x.ring(2), 2);
    }

    private static void swap() {
        BayMoorings x = corners();
        x.rather(0, 1);
        x.rather(1, 2);
        x.rather(2, 0);
        x.rather(3, 0);
        x.boat(0, 20, 1);
        x.rather(4, 3);
        x.tell(5);
        due("swap()", x.swap(), 3);
        int[] lies = {1, 2, 0, 3, -1};
        for (int n = 0; n < 5; n++) {
            due("about(" + n + ", 3)", x.about(n, 3), lies[n]);
            due("content(" + n + ")", x.content(n), 0);
        }
        due("of(0, 4)", x.of(0, 4), 2);
        due("of(1, 4)", x.of(1, 4), 0);
        due("swap()", x.swap(), 0);
        due("count(2)", x.count(2), 4);
        due("numbers still wait", x.count(4), 1);
    }

    private static void years() {
        BayMoorings x = new BayMoorings();
        x.buoy(0, 0, 50, 300);
        x.buoy(999, 0, 50, 300);
        x.buoy(0, 999, 50, 300);
        x.boat(0, 150, 0);
        x.boat(0, 149, 0);
        due("moor", x.moor(0, 0), 1);
        due("moor", x.moor(1, 1), 1);
        due("years(0)", x.years(0), BEYOND);
        due("years(31)", x.years(31), BEYOND);
        due("years(-1)", x.years(-1), BEYOND);
        due("years(1)", x.years(1), 0);
        int[] high = {20, 12, 12};
        for (int b = 0; b < 3; b++) {
            due("low", x.of(b, 5), 3);
            due("high", x.of(b, 6), high[b]);
        }
        due("years(4)", x.years(4), 0);
        due("high at most", x.of(0, 6), 100);
        due("high", x.of(1, 6), 60);
        due("years(14)", x.years(14), 0);
        due("low 57", x.of(0, 5), 57);
        x.renew(2);
        due("years(1)", x.years(1), 2);
        due("years(30)", x.years(30), 3);
        due("low at most", x.of(0, 5), 100);
        due("the new one's low", x.of(2, 5), 93);
        due("the new one's high", x.of(2, 6), 100);
    }

    private static void look() {
        BayMoorings x = row(1);
        due("more than nothing", x.look(0, 0, 1), 0);
        due("v above high", x.look(0, 1, 1), NONE);
        due("less than v", x.look(0, 1, 0), 0);
        due("less than nothing", x.look(0, 0, 0), NONE);
        x.years(5);
        due("v is low", x.look(0, 15, 0), NONE);
        due("v above high", x.look(0, 61, 1), NONE);
        due("nothing new: less than 100", x.look(0, 100, 0), 45);
        due("nothing new: 10 or more", x.look(0, 10, 1), 45);
        due("low doesn't fall", x.of(0, 5), 15);
        due("high doesn't rise", x.of(0, 6), 60);
        due("less than 60", x.look(0, 60, 0), 44);
        due("high is 59", x.of(0, 6), 59);
        due("20 or more", x.look(0, 20, 1), 39);
        due("low is 20", x.of(0, 5), 20);
        due("less than 21", x.look(0, 21, 0), 0);
        due("v is high", x.look(0, 20, 1), 0);
        due("look(1, 0, 1)", x.look(1, 0, 1), BEYOND);
        due("look(-1, 0, 1)", x.look(-1, 0, 1), BEYOND);
        due("look(0, -1, 1)", x.look(0, -1, 1), BEYOND);
        due("look(0, 101, 0)", x.look(0, 101, 0), BEYOND);
        due("look(0, 0, 2)", x.look(0, 0, 2), BEYOND);
        due("look(0, 0, -1)", x.look(0, 0, -1), BEYOND);
    }

    private static void next() {
        BayMoorings x = new BayMoorings();
        due("no buoys", x.next(), NONE);
        for (int n = 0; n < 3; n++) {
            x.buoy(80 * n, 0, 10, 10);
        }
        due("the least number", x.next(), 0);
        x.years(5);
        due("the least number", x.next(), 0);
        x.look(0, 16, 1);
        due("greatest doubt", x.next(), 1);
        x.look(1, 60, 0);
        x.look(2, 17, 1);
        due("0: 16 to 60, 1: 15 to 59, 2: 17 to 60", x.next(), 0);
        x.look(0, 17, 1);
        x.look(1, 16, 1);
        due("0: 17 to 60, 1: 16 to 59, 2: 17 to 60", x.next(), 0);
        x.look(0, 59, 0);
        due("0: 17 to 58, 1: 16 to 59, 2: 17 to 60", x.next(), 2);
        due("nothing changes", x.next(), 2);
    }

    private static void renew() {
        BayMoorings x = row(2);
        due("renew(0)", x.renew(0), 0);
        x.years(2);
        due("renew(0)", x.renew(0), 24);
        due("low", x.of(0, 5), 0);
        due("high", x.of(0, 6), 0);
        due("the other's", x.of(1, 6), 24);
        due("renew(2)", x.renew(2), BEYOND);
        due("renew(-1)", x.renew(-1), BEYOND);
        x.years(20);
        due("parted", x.count(5), 2);
        due("renew(1)", x.renew(1), 100);
        due("parted", x.count(5), 1);
    }

    private static void storm() {
        BayMoorings x = corners();
        due("storm(0)", x.storm(0), BEYOND);
        due("storm(101)", x.storm(101), BEYOND);
        due("storm(98)", x.storm(98), 0);
        due("storm(99)", x.storm(99), 4);
        x.years(1);
        x.renew(2);
        due("storm(86)", x.storm(86), 0);
        due("storm(87)", x.storm(87), 3);
        due("nothing changes", x.count(2), 4);
        due("nothing changes", x.about(0, 3), 0);
        BayMoorings y = row(1);
        y.boat(0, 10, 0);
        y.moor(0, 0);
        due("storm(99)", y.storm(99), 0);
        due("storm(100)", y.storm(100), 1);
    }

    private static void fled() {
        BayMoorings x = row(6);
        for (int n = 0; n < 4; n++) {
            x.boat(0, 10, 0);
        }
        x.moor(0, 1);
        x.moor(1, 0);
        x.moor(2, 3);
        x.years(1);
        x.renew(1);
        x.renew(3);
        x.renew(5);
        due("it holds", x.fled(0, 90), 1);
        due("it flees over one that doesn't hold", x.fled(1, 90), 5);
        due("it lies nowhere", x.fled(3, 90), STATE);
        due("fled(4, 90)", x.fled(4, 90), BEYOND);
        due("fled(-1, 90)", x.fled(-1, 90), BEYOND);
        due("fled(0, 0)", x.fled(0, 0), BEYOND);
        due("fled(0, 101)", x.fled(0, 101), BEYOND);
        due("beyond comes first", x.fled(3, 101), BEYOND);
        due("nothing changes", x.about(1, 3), 0);
        due("none is left for the second", fledInTurn(1), -1);
        due("what the first left is free for the second", fledInTurn(2), 0);
        due("who hasn't fled yet is still there", fledInTurn(0), 2);
        fledDoesNotTouch();
    }

    /**
     * BUOY 0 holds only the short, BUOY 2 everyone, BUOY 1 nobody: a long BOAT 0 at BUOY 0 flees to BUOY 2,
     * so that BUOY 0 is free for BOAT 2; BOAT 1, that comes before it, is too deep for BUOY 0.
     */
    private static int fledInTurn(int boat) {
        BayMoorings x = new BayMoorings();
        x.buoy(0, 0, 10, 60);
        x.buoy(300, 0, 20, 60);
        x.buoy(600, 0, 20, 60);
        x.buoy(900, 0, 20, 60);
        x.boat(0, 60, 10);
        x.boat(0, 10, 20);
        x.boat(0, 10, 10);
        x.moor(0, 0);
        x.moor(1, 1);
        x.moor(2, 3);
        x.years(1);
        x.look(0, 9, 0);
        x.renew(2);
        return x.fled(boat, 90);
    }

    private static void fledDoesNotTouch() {
        BayMoorings x = new BayMoorings();
        x.buoy(0, 0, 10, 10);
        x.buoy(300, 0, 10, 10);
        x.buoy(305, 0, 10, 10);
        x.buoy(5, 0, 10, 10);
        x.boat(0, 10, 0);
        x.boat(0, 10, 0);
        due("moor(0, 0)", x.moor(0, 0), 1);
        due("moor(1, 1)", x.moor(1, 1), 1);
        x.years(1);
        x.renew(2);
        x.renew(3);
        due("beside the other it may not lie, beside its own place it may", x.fled(0, 90), 3);
        due("the second beside its own place", x.fled(1, 90), 2);
        x.renew(1);
        due("the second holds", x.fled(1, 90), 1);
        x.leave(1);
        due("with none beside it", x.fled(0, 90), 1);
        due("storm(90)", x.storm(90), 1);
    }

    private static void rate() {
        BayMoorings x = new BayMoorings();
        due("rate(100)", x.rate(100), 3);
        due("rate(0)", x.rate(0), 100);
        due("rate(101)", x.rate(101), BEYOND);
        due("rate(-1)", x.rate(-1), BEYOND);
        due("rate(5)", x.rate(5), 0);
    }

    private static void dues() {
        BayMoorings x = new BayMoorings();
        x.buoy(0, 0, 50, 300);
        x.buoy(999, 0, 50, 300);
        x.buoy(0, 999, 50, 300);
        x.boat(0, 81, 0);
        x.boat(1, 81, 0);
        x.boat(2, 80, 0);
        x.boat(0, 300, 0);
        due("none lies", x.dues(), 0);
        for (int n = 0; n < 3; n++) {
            due("moor", x.moor(n, n), 1);
        }
        due("24.3 up, 25 and a half of it, 24", x.dues(), 25 + 37 + 24);
        due("about(1, 5)", x.about(1, 5), 37);
        x.rate(0);
        due("rate 0", x.dues(), 0);
        x.rate(100);
        due("rate 100", x.dues(), 810 + 1215 + 800);
        x.leave(1);
        due("two lie", x.dues(), 810 + 800);
    }

    private static void tell() {
        BayMoorings x = new BayMoorings();
        for (int i = 0; i < 24; i++) {
            due("tell", x.tell(i == 0 ? Integer.MIN_VALUE : -1000003), i + 1);
        }
        due("full", x.tell(0), FULL);
        due("count(4)", x.count(4), 24);
        due("found(4)", x.found(4), 1);
        due("found(3)", x.found(3), 0);
    }

    private static int checked(BayMoorings x, int... numbers) {
        for (int v : numbers) {
            x.tell(v);
        }
        return x.check();
    }

    private static void check() {
        BayMoorings x = corners();
        x.rather(0, 1);
        x.rather(1, 0);
        x.leave(2);
        due("as they are", checked(x, 1, 0, -1, 3), 0);
        due("none waits", x.count(4), 0);
        due("the first is wrong", checked(x, 0, 0, -1, 3), 1);
        due("the third is wrong", checked(x, 1, 0, 2, 3), 3);
        due("the last is wrong", checked(x, 1, 0, -1, -1), 4);
        due("one more than boats", checked(x, 1, 0, -1, 3, -1), 5);
        due("one more than boats", checked(x, 1, 0, -1, 3, 0), 5);
        due("fewer than boats", checked(x, 1, 0), 0);
        due("no numbers", x.check(), 0);
        due("the first of two", checked(x, 1, 1, -1, 4), 2);
        due("none waits", x.count(4), 0);
        due("nothing else changes", x.about(0, 3), 0);
        due("still told", x.content(0), 1);
    }

    private static void count() {
        BayMoorings x = row(3);
        x.boat(0, 10, 0);
        x.boat(0, 10, 0);
        x.boat(0, 10, 0);
        x.boat(0, 10, 0);
        x.moor(0, 0);
        x.wait(1);
        x.wait(2);
        x.tell(9);
        x.winds(7);
        x.years(20);
        x.renew(1);
        int[] want = {3, 4, 1, 2, 1, 2, 3};
        for (int what = 0; what < want.length; what++) {
            due("count(" + what + ")", x.count(what), want[what]);
        }
        due("count(7)", x.count(7), BEYOND);
        due("count(-1)", x.count(-1), BEYOND);
    }

    private static void found() {
        BayMoorings x = row(1);
        x.boat(0, 10, 0);
        due("found(0)", x.found(0), BEYOND);
        due("found(6)", x.found(6), BEYOND);
        due("found(-1)", x.found(-1), BEYOND);
        due("found(1)", x.found(1), 3);
        x.leave(0);
        x.offer(0);
        x.offer(0);
        x.as(0, 1);
        x.answer(0, 1);
        due("found(1)", x.found(1), 3);
        due("found(2)", x.found(2), 3);
        due("found(3)", x.found(3), 1);
        due("found(4)", x.found(4), 0);
        due("found(5)", x.found(5), 1);
        due("an answer of -1 is no finding", x.about(0, 3), -1);
        due("found(1)", x.found(1), 3);
    }
}
