/** The Terms of the document, word by word: every bound, rounding, tie and first value has a test of its own. */
public final class TermsTests extends DocTest {
    private static final int[][] WAYS = {{0, -1}, {1, -1}, {1, 0}, {1, 1}, {0, 1}, {-1, 1}, {-1, 0}, {-1, -1}};

    public static void main(String[] args) {
        preface();
        termsOne();
        termsTwo();
        termsThree();
        termsFour();
        termsFive();
        termsAreQuoted();
        end();
    }

    // ---- what stands ahead of the numbered terms

    private static void preface() {
        terms(35, "FINDINGS are answers below -1000000: LOW is -1000000; LOW - 1 BEYOND, LOW - 2 NONE, LOW - 3 STATE, "
            + "LOW - 4 FULL, LOW - 5 KIND.", TermsTests::theFiveFindings);
        terms(35, "Each act tells its findings in the order in which they are asked;", TermsTests::inTheOrderAsked);
        terms(35, "one that answers a finding changes nothing but what found() tells.", TermsTests::refusedChangesNothing);
        terms(31, "Quotients are cut.", TermsTests::quotientsAreCut);
    }

    private static void theFiveFindings() {
        BayMoorings x = new BayMoorings();
        x.boat(0, 10, 0);
        due("BEYOND", x.winds(0), -1000001);
        due("NONE", x.next(), -1000002);
        due("STATE", x.leave(0), -1000003);
        for (int i = 0; i < 24; i++) {
            x.tell(0);
        }
        due("FULL", x.tell(0), -1000004);
        due("KIND", x.as(0, 1), -1000005);
    }

    // RefusalTests has this for every act; here is one of each pair of neighbours.
    private static void inTheOrderAsked() {
        BayMoorings x = rowWithBoats(12);
        due("BEYOND, then FULL", x.buoy(1000, 0, 0, 10), BEYOND);
        due("BEYOND, then STATE", x.moor(0, 12), BEYOND);
        due("STATE, then NONE", x.offer(0), STATE);
        due("BEYOND, then KIND", x.as(0, 3), BEYOND);
        due("BEYOND, then NONE", x.look(0, 101, 1), BEYOND);
        for (int b = 0; b < 4; b++) {
            x.rather(0, b);
        }
        due("STATE, then FULL", x.rather(0, 3), STATE);
    }

    // RefusalTests has this for every act and the whole state.
    private static void refusedChangesNothing() {
        BayMoorings x = rowWithBoats(2);
        x.boat(0, 10, 0);
        x.wait(2);
        due("moor(2, 0)", x.moor(2, 0), STATE);
        due("it still waits", x.about(2, 4), 0);
        due("it lies nowhere", x.about(2, 3), -1);
        due("the buoy has the same", x.of(0, 4), 0);
        due("found(3)", x.found(3), 1);
        due("found(1)", x.found(1), 0);
    }

    private static void quotientsAreCut() {
        BayMoorings x = row(1);
        x.boat(1, 19, 0);
        x.boat(2, 10, 21);
        due("a half of 19 is 9", x.out(0, 0, 0), 28);
        due("5.7 up is 6, and a half of it", x.as(0, 1), 9);
        x.rate(4);
        due("7.6 up is 8, and a half of it", x.as(0, 1), 12);
        x.rate(1);
        due("1.9 up is 2, and a half of it", x.as(0, 1), 3);
        x.rate(2);
        due("3.8 up is 4, and a half of it", x.as(0, 1), 6);
        x.rate(13);
        due("24.7 up is 25, and 12.5 cut", x.as(0, 1), 37);
        due("a half of 21 is 10", x.fits(1, 0), 1);
    }

    // ---- 1: BUOYS, BOATS, TIDES, WINDS

    private static void termsOne() {
        terms(2, "BUOYS 0, 1, .. (at most 12)", TermsTests::twelveBuoys);
        terms(2, "lie at x, y (0 .. 999, in tenths of a length),", TermsTests::placesOfBuoys);
        terms(2, "with DEPTH (0 .. 300)", TermsTests::depths);
        terms(2, "and CHAIN (10 .. 400).", TermsTests::chains);
        terms(3, "BOATS 0, 1, .. (at most 16)", TermsTests::sixteenBoats);
        terms(4, "are of KINDS: 0 BOAT, 1 TWIN under BOAT, 2 DRY under BOAT;", TermsTests::kinds);
        terms(3, "each has LENGTH (10 .. 300)", TermsTests::lengths);
        terms(3, "and DRAUGHT (0 .. 100).", TermsTests::draughts);
        terms(5, "TIDES: of HOURS 0 .. 23", TermsTests::hours);
        terms(5, "each how much water there is above DEPTH (0 .. 200;", TermsTests::tides);
        terms(5, "0 at first).", TermsTests::tidesAtFirst);
        terms(6, "WINDS: which of 8 there are, as bits", TermsTests::windsAsBits);
        terms(6, "(all at first):", TermsTests::windsAtFirst);
        terms(11, "from 0 on along (0, -1), (1, -1), (1, 0), (1, 1), (0, 1), (-1, 1), (-1, 0), (-1, -1).",
            TermsTests::waysOfWinds);
        terms(9, "OUT of a BOAT at a BUOY at an HOUR: with w the DEPTH and the TIDE:", TermsTests::waterIsDepthAndTide);
        terms(9, "the whole root of CHAIN times CHAIN less w times w", TermsTests::wholeRoots);
        terms(9, "(0 if w is CHAIN or more),", TermsTests::noRootInDeepWater);
        terms(9, "and LENGTH;", TermsTests::outHasTheLength);
        terms(9, "of a TWIN LENGTH and a half of it (cut).", TermsTests::outOfTwins);
        terms(11, "AT a WIND its far end lies at the BUOY's place and OUT times the WIND's way", TermsTests::farEnds);
        terms(11, "(of two steps: OUT times 7 by 10 each).", TermsTests::farEndsOfTwoSteps);
        terms(10, "A BOAT FITS a BUOY if its LENGTH is CHAIN at most,", TermsTests::lengthIsChainAtMost);
        terms(10, "and at each HOUR DEPTH and TIDE are DRAUGHT or more", TermsTests::waterAtEachHour);
        terms(10, "(of a DRY half of it, cut, is enough).", TermsTests::waterOfDry);
        terms(11, "Two BOATS at two BUOYS may TOUCH at an HOUR", TermsTests::touchAtAnHour);
        terms(11, "if there are two WINDS that there are, beside one another (their numbers differ by 1 or 7)",
            TermsTests::windsBesideOneAnother);
        terms(11, "or the same,", TermsTests::theSameWind);
        terms(11, "such that the far end of the one by the one WIND and that of the other by the other WIND are both "
            + "along x and along y less than 20 apart;", TermsTests::lessThanTwentyApart);
        terms(11, "or if their BUOYS are less than the lesser OUT of both apart, both along x and along y.",
            TermsTests::buoysWithinTheLesserOut);
    }

    private static void twelveBuoys() {
        BayMoorings x = new BayMoorings();
        for (int n = 0; n < 12; n++) {
            due("buoy", x.buoy(n, n, n, 10 + n), n);
        }
        due("the 13th", x.buoy(0, 0, 0, 10), FULL);
        due("the 12th is there", x.of(11, 3), 21);
        due("the 13th isn't", x.of(12, 3), BEYOND);
    }

    private static void placesOfBuoys() {
        BayMoorings x = new BayMoorings();
        due("the least", x.buoy(0, 0, 0, 10), 0);
        due("the greatest", x.buoy(999, 999, 0, 10), 1);
        due("x -1", x.buoy(-1, 0, 0, 10), BEYOND);
        due("x 1000", x.buoy(1000, 0, 0, 10), BEYOND);
        due("y -1", x.buoy(0, -1, 0, 10), BEYOND);
        due("y 1000", x.buoy(0, 1000, 0, 10), BEYOND);
        due("x of the greatest", x.of(1, 0), 999);
        due("y of the greatest", x.of(1, 1), 999);
    }

    private static void depths() {
        BayMoorings x = new BayMoorings();
        due("0", x.buoy(0, 0, 0, 10), 0);
        due("300", x.buoy(0, 0, 300, 10), 1);
        due("-1", x.buoy(0, 0, -1, 10), BEYOND);
        due("301", x.buoy(0, 0, 301, 10), BEYOND);
        due("of(1, 2)", x.of(1, 2), 300);
    }

    private static void chains() {
        BayMoorings x = new BayMoorings();
        due("10", x.buoy(0, 0, 0, 10), 0);
        due("400", x.buoy(0, 0, 0, 400), 1);
        due("9", x.buoy(0, 0, 0, 9), BEYOND);
        due("401", x.buoy(0, 0, 0, 401), BEYOND);
        due("of(1, 3)", x.of(1, 3), 400);
    }

    private static void sixteenBoats() {
        BayMoorings x = new BayMoorings();
        for (int n = 0; n < 16; n++) {
            due("boat", x.boat(n % 3, 10 + n, n), n);
        }
        due("the 17th", x.boat(0, 10, 0), FULL);
        due("the 16th is there", x.about(15, 1), 25);
        due("the 17th isn't", x.about(16, 1), BEYOND);
    }

    private static void kinds() {
        BayMoorings x = new BayMoorings();
        due("-1", x.boat(-1, 10, 0), BEYOND);
        due("3", x.boat(3, 10, 0), BEYOND);
        for (int kind = 0; kind <= 2; kind++) {
            due("boat", x.boat(kind, 10, 0), kind);
            due("about", x.about(kind, 0), kind);
        }
        int[][] isOf = {{1, 0, 0}, {1, 1, 0}, {1, 0, 1}};
        for (int boat = 0; boat <= 2; boat++) {
            for (int kind = 0; kind <= 2; kind++) {
                int fee = boat == 1 ? 4 : 3;
                due("as(" + boat + ", " + kind + ")", x.as(boat, kind), isOf[boat][kind] == 1 ? fee : KIND);
            }
        }
    }

    private static void lengths() {
        BayMoorings x = new BayMoorings();
        due("10", x.boat(0, 10, 0), 0);
        due("300", x.boat(0, 300, 0), 1);
        due("9", x.boat(0, 9, 0), BEYOND);
        due("301", x.boat(0, 301, 0), BEYOND);
        due("about(1, 1)", x.about(1, 1), 300);
    }

    private static void draughts() {
        BayMoorings x = new BayMoorings();
        due("0", x.boat(0, 10, 0), 0);
        due("100", x.boat(0, 10, 100), 1);
        due("-1", x.boat(0, 10, -1), BEYOND);
        due("101", x.boat(0, 10, 101), BEYOND);
        due("about(1, 2)", x.about(1, 2), 100);
    }

    private static void hours() {
        BayMoorings x = row(1);
        addBoats(x, 1);
        for (int hour = 0; hour < 24; hour++) {
            due("tide(" + hour + ", 1)", x.tide(hour, 1), 0);
            due("out at " + hour, x.out(0, 0, hour), 10);
        }
        due("tide(-1, 0)", x.tide(-1, 0), BEYOND);
        due("tide(24, 0)", x.tide(24, 0), BEYOND);
        due("out(0, 0, -1)", x.out(0, 0, -1), BEYOND);
        due("out(0, 0, 24)", x.out(0, 0, 24), BEYOND);
    }

    private static void tides() {
        BayMoorings x = new BayMoorings();
        due("200", x.tide(0, 200), 0);
        due("201", x.tide(0, 201), BEYOND);
        due("-1", x.tide(0, -1), BEYOND);
        due("0", x.tide(0, 0), 200);
        due("0 again", x.tide(0, 0), 0);
    }

    private static void tidesAtFirst() {
        BayMoorings x = new BayMoorings();
        for (int hour = 0; hour < 24; hour++) {
            due("tide(" + hour + ", 7)", x.tide(hour, 7), 0);
        }
    }

    private static void windsAsBits() {
        BayMoorings x = new BayMoorings();
        due("the least", x.winds(1), 255);
        due("one wind", x.count(6), 1);
        due("the greatest", x.winds(255), 1);
        due("eight winds", x.count(6), 8);
        due("none", x.winds(0), BEYOND);
        due("a ninth", x.winds(256), BEYOND);
        due("negative", x.winds(-1), BEYOND);
        due("still eight", x.count(6), 8);
    }

    private static void windsAtFirst() {
        BayMoorings x = new BayMoorings();
        due("count(6)", x.count(6), 8);
        due("winds(3)", x.winds(3), 255);
    }

    /** Two BOATS with OUTS of 10 and 90, the second BUOY so that by this one WIND both far ends lie together. */
    private static BayMoorings endsTogetherBy(int wind) {
        boolean twoSteps = wind % 2 == 1;
        int apart = twoSteps ? 63 - 7 : 90 - 10;
        BayMoorings x = new BayMoorings();
        x.buoy(500, 500, 90, 90);
        x.buoy(500 - apart * WAYS[wind][0], 500 - apart * WAYS[wind][1], 90, 90);
        x.boat(0, 10, 0);
        x.boat(0, 90, 0);
        return x;
    }

    private static void waysOfWinds() {
        for (int by = 0; by < 8; by++) {
            BayMoorings x = endsTogetherBy(by);
            for (int wind = 0; wind < 8; wind++) {
                x.winds(1 << wind);
                due("together by " + by + ", wind " + wind, x.touch(0, 0, 1, 1), wind == by ? 0 : -1);
            }
        }
    }

    private static BayMoorings oneBuoy(int depth, int chain) {
        BayMoorings x = new BayMoorings();
        x.buoy(0, 0, depth, chain);
        x.boat(0, 10, 0);
        return x;
    }

    private static void waterIsDepthAndTide() {
        BayMoorings x = oneBuoy(3, 10);
        due("w is 3", x.out(0, 0, 6), 19);
        x.tide(6, 5);
        due("w is 8", x.out(0, 0, 6), 16);
        due("w is 3 at the hour before", x.out(0, 0, 5), 19);
        due("w is 3 at the hour after", x.out(0, 0, 7), 19);
        x.buoy(0, 0, 1, 10);
        due("w is 6 at a buoy that came later", x.out(0, 1, 6), 18);
        x.tide(6, 0);
        due("w is 1 there", x.out(0, 1, 6), 19);
    }

    private static void wholeRoots() {
        int[][] depthChainRoot = {
            {0, 10, 10}, {6, 10, 8}, {8, 10, 6}, {9, 10, 4}, {5, 13, 12}, {1, 11, 10}, {0, 11, 11}, {0, 400, 400},
            {1, 400, 399}, {240, 400, 320}, {241, 400, 319}, {239, 400, 320}, {299, 300, 24}, {300, 301, 24},
        };
        for (int[] a : depthChainRoot) {
            due("root of " + a[1] + "^2 - " + a[0] + "^2", oneBuoy(a[0], a[1]).out(0, 0, 0), a[2] + 10);
        }
    }

    private static void noRootInDeepWater() {
        due("w is less by 1", oneBuoy(19, 20).out(0, 0, 0), 16);
        due("w is CHAIN", oneBuoy(20, 20).out(0, 0, 0), 10);
        due("w is more by 1", oneBuoy(21, 20).out(0, 0, 0), 10);
        BayMoorings x = oneBuoy(300, 400);
        x.tide(0, 99);
        due("w is 399", x.out(0, 0, 0), 38);
        x.tide(0, 100);
        due("w is 400", x.out(0, 0, 0), 10);
        x.tide(0, 200);
        due("w is 500", x.out(0, 0, 0), 10);
    }

    private static void outHasTheLength() {
        BayMoorings x = row(1);
        x.boat(0, 10, 0);
        x.boat(0, 300, 0);
        x.boat(2, 33, 0);
        due("10", x.out(0, 0, 0), 10);
        due("300", x.out(1, 0, 0), 300);
        due("a DRY of 33", x.out(2, 0, 0), 33);
    }

    private static void outOfTwins() {
        BayMoorings x = row(1);
        x.boat(1, 10, 0);
        x.boat(1, 11, 0);
        x.boat(1, 299, 0);
        x.boat(1, 300, 0);
        due("10 and 5", x.out(0, 0, 0), 15);
        due("11 and 5", x.out(1, 0, 0), 16);
        due("299 and 149", x.out(2, 0, 0), 448);
        due("300 and 150", x.out(3, 0, 0), 450);
    }

    private static void farEnds() {
        for (int wind = 0; wind < 8; wind++) {
            for (int axis = 0; axis < 4; axis++) {
                due("wind " + wind + ", 19 off", touchWhenOff(wind, 19 * WAYS[2 * axis][0], 19 * WAYS[2 * axis][1]), 0);
                due("wind " + wind + ", 20 off", touchWhenOff(wind, 20 * WAYS[2 * axis][0], 20 * WAYS[2 * axis][1]), -1);
            }
        }
    }

    /** As endsTogetherBy, but the second BUOY is this much off. */
    private static int touchWhenOff(int wind, int dx, int dy) {
        BayMoorings x = endsTogetherBy(wind);
        x.buoy(x.of(1, 0) + dx, x.of(1, 1) + dy, 90, 90);
        x.winds(1 << wind);
        return x.touch(0, 0, 1, 2);
    }

    /** OUTS of 11 (7.7, cut 7) and 90 (63), by one WIND of two steps. */
    private static int touchOfTwoSteps(int wind, int x1, int y1) {
        BayMoorings x = new BayMoorings();
        x.buoy(500, 500, 90, 90);
        x.buoy(x1, y1, 90, 90);
        x.boat(0, 11, 0);
        x.boat(0, 90, 0);
        x.winds(1 << wind);
        return x.touch(0, 0, 1, 1);
    }

    private static void farEndsOfTwoSteps() {
        due("(507, 493) and (488, 493)", touchOfTwoSteps(1, 425, 556), 0);
        due("(507, 493) and (487, 493)", touchOfTwoSteps(1, 424, 556), -1);
        due("(507, 493) and (526, 493)", touchOfTwoSteps(1, 463, 556), 0);
        due("(507, 493) and (527, 493)", touchOfTwoSteps(1, 464, 556), -1);
        due("(507, 493) and (507, 474)", touchOfTwoSteps(1, 444, 537), 0);
        due("(507, 493) and (507, 473)", touchOfTwoSteps(1, 444, 536), -1);
        due("(493, 507) and (474, 507)", touchOfTwoSteps(5, 537, 444), 0);
        due("(493, 507) and (473, 507)", touchOfTwoSteps(5, 536, 444), -1);
        due("(493, 507) and (512, 507)", touchOfTwoSteps(5, 575, 444), 0);
        due("(493, 507) and (513, 507)", touchOfTwoSteps(5, 576, 444), -1);
        due("(493, 507) and (493, 526)", touchOfTwoSteps(5, 556, 463), 0);
        due("(493, 507) and (493, 527)", touchOfTwoSteps(5, 556, 464), -1);
    }

    private static int fitsAt(int kind, int length, int draught) {
        BayMoorings x = new BayMoorings();
        x.buoy(0, 0, 20, 50);
        x.boat(kind, length, draught);
        return x.fits(0, 0);
    }

    private static void lengthIsChainAtMost() {
        for (int kind = 0; kind <= 2; kind++) {
            due("of " + kind + ": 49 by 50", fitsAt(kind, 49, 0), 1);
            due("of " + kind + ": 50 by 50", fitsAt(kind, 50, 0), 1);
            due("of " + kind + ": 51 by 50", fitsAt(kind, 51, 0), 0);
        }
    }

    private static void waterAtEachHour() {
        for (int kind = 0; kind <= 1; kind++) {
            due("of " + kind + ": 20 in 20", fitsAt(kind, 10, 20), 1);
            due("of " + kind + ": 21 in 20", fitsAt(kind, 10, 21), 0);
        }
        for (int low = 0; low < 24; low++) {
            BayMoorings x = oneBuoy(0, 10);
            x.boat(0, 10, 5);
            setAllTides(x, 5);
            due("5 at each hour", x.fits(1, 0), 1);
            x.tide(low, 4);
            due("4 at hour " + low, x.fits(1, 0), 0);
        }
    }

    private static void waterOfDry() {
        due("40 in 20", fitsAt(2, 10, 40), 1);
        due("41 in 20", fitsAt(2, 10, 41), 1);
        due("42 in 20", fitsAt(2, 10, 42), 0);
        BayMoorings x = oneBuoy(0, 10);
        x.boat(2, 10, 1);
        x.boat(2, 10, 2);
        due("1 in 0", x.fits(1, 0), 1);
        due("2 in 0", x.fits(2, 0), 0);
    }

    private static void touchAtAnHour() {
        for (int hour = 0; hour < 24; hour++) {
            BayMoorings x = touchingAtLowWater();
            due("at no hour", x.touch(0, 0, 1, 1), -1);
            x.tide(hour, 0);
            due("at hour " + hour, x.touch(0, 0, 1, 1), hour);
        }
    }

    /** BUOYS 59 apart, OUTS of 60 at a TIDE of 0 and of 50 at 30, which is that of all HOURS. */
    private static BayMoorings touchingAtLowWater() {
        BayMoorings x = new BayMoorings();
        x.buoy(0, 0, 0, 50);
        x.buoy(59, 0, 0, 50);
        addBoats(x, 2);
        x.winds(1);
        setAllTides(x, 30);
        return x;
    }

    /** OUTS of 40 and 200; far ends lie together by WIND one of the one and WIND two of the other, and no otherwise. */
    private static BayMoorings endsTogetherByTwo(int one, int two) {
        int near = one % 2 == 1 ? 28 : 40;
        int far = two % 2 == 1 ? 140 : 200;
        BayMoorings x = new BayMoorings();
        x.buoy(500, 500, 200, 200);
        x.buoy(500 + near * WAYS[one][0] - far * WAYS[two][0], 500 + near * WAYS[one][1] - far * WAYS[two][1], 200, 200);
        x.boat(0, 40, 0);
        x.boat(0, 200, 0);
        return x;
    }

    private static void windsBesideOneAnother() {
        for (int one = 0; one < 8; one++) {
            for (int two = 0; two < 8; two++) {
                int differ = Math.abs(one - two);
                if (differ == 0) {
                    continue;
                }
                BayMoorings x = endsTogetherByTwo(one, two);
                String winds = "winds " + one + " and " + two;
                x.winds(1 << one | 1 << two);
                due(winds, x.touch(0, 0, 1, 1), differ == 1 || differ == 7 ? 0 : -1);
                due(winds + ", asked the other way", x.touch(1, 1, 0, 0), differ == 1 || differ == 7 ? 0 : -1);
                x.winds(1 << one);
                due(winds + ", only the one", x.touch(0, 0, 1, 1), -1);
                x.winds(1 << two);
                due(winds + ", only the other", x.touch(0, 0, 1, 1), -1);
            }
        }
    }

    private static void theSameWind() {
        for (int wind = 0; wind < 8; wind++) {
            BayMoorings x = endsTogetherByTwo(wind, wind);
            x.winds(1 << wind);
            due("wind " + wind, x.touch(0, 0, 1, 1), 0);
            x.winds(255 - (1 << wind));
            due("all but wind " + wind, x.touch(0, 0, 1, 1), -1);
        }
    }

    /** OUTS of 10 each, by one WIND: the far ends are as far apart as the BUOYS. */
    private static int touchApart(int dx, int dy) {
        BayMoorings x = new BayMoorings();
        x.buoy(500, 500, 10, 10);
        x.buoy(500 + dx, 500 + dy, 10, 10);
        addBoats(x, 2);
        x.winds(1);
        return x.touch(0, 0, 1, 1);
    }

    private static void lessThanTwentyApart() {
        int[] signs = {-1, 1};
        for (int sx : signs) {
            for (int sy : signs) {
                due("19 and 19", touchApart(19 * sx, 19 * sy), 0);
                due("20 and 19", touchApart(20 * sx, 19 * sy), -1);
                due("19 and 20", touchApart(19 * sx, 20 * sy), -1);
                due("20 and 0", touchApart(20 * sx, 0), -1);
                due("0 and 20", touchApart(0, 20 * sy), -1);
            }
        }
    }

    /** OUTS of 120 and 110, by WIND 0 alone, by which the far ends are far apart. */
    private static int touchByBuoys(int dx, int dy) {
        BayMoorings x = new BayMoorings();
        x.buoy(500, 500, 0, 100);
        x.buoy(500 + dx, 500 + dy, 0, 10);
        x.boat(0, 20, 0);
        x.boat(0, 100, 0);
        x.winds(1);
        return x.touch(0, 0, 1, 1);
    }

    private static void buoysWithinTheLesserOut() {
        int[] signs = {-1, 1};
        for (int sign : signs) {
            due("109 along x", touchByBuoys(109 * sign, 0), 0);
            due("110 along x", touchByBuoys(110 * sign, 0), -1);
            due("119 along x", touchByBuoys(119 * sign, 0), -1);
            due("109 along y", touchByBuoys(0, 109 * sign), 0);
            due("110 along y", touchByBuoys(0, 110 * sign), -1);
            due("109 along both", touchByBuoys(109 * sign, 109 * sign), 0);
            due("109 and 110", touchByBuoys(109 * sign, 110 * sign), -1);
            due("110 and 109", touchByBuoys(110 * sign, 109 * sign), -1);
        }
    }

    // ---- 2: lying

    private static void termsTwo() {
        terms(12, "A BOAT lies at one BUOY or none, a BUOY has one BOAT or none.", TermsTests::oneOrNone);
        terms(12, "It MAY LIE at a BUOY that is free", TermsTests::onlyAtFreeBuoys);
        terms(12, "if it FITS", TermsTests::onlyIfItFits);
        terms(12, "and may TOUCH no BOAT that lies,", TermsTests::touchesNoneThatLies);
        terms(12, "at any HOUR.", TermsTests::touchesAtNoHour);
        terms(14, "THE MOST of up to 5 BOATS", TermsTests::mostOfFive);
        terms(14, "that lie nowhere:", TermsTests::mostOfThoseThatLieNowhere);
        terms(14, "of all ways to give each of them a free BUOY or none,", TermsTests::mostTakesFreeBuoys);
        terms(14, "so that each FITS", TermsTests::mostFits);
        terms(14, "and no two (with those that lie) may TOUCH,", TermsTests::mostTouchesNone);
        terms(14, "that with the most BOATS that get one;", TermsTests::mostIsTheMost);
        terms(14, "of several that which gives the first of them (by numbers) the BUOY with the least number",
            TermsTests::mostGivesTheFirstTheLeast);
        terms(14, "(none is greater than all),", TermsTests::noneIsGreaterThanAll);
        terms(14, "then the second, and so on.", TermsTests::thenTheSecond);
    }

    private static void oneOrNone() {
        BayMoorings x = row(2);
        addBoats(x, 2);
        due("no buoy", x.about(0, 3), -1);
        due("no boat", x.of(1, 4), -1);
        due("moor(0, 1)", x.moor(0, 1), 1);
        due("its buoy", x.about(0, 3), 1);
        due("its boat", x.of(1, 4), 0);
        due("a second buoy", x.moor(0, 0), STATE);
        due("a second boat", x.moor(1, 1), STATE);
        due("its buoy", x.about(0, 3), 1);
        due("its boat", x.of(1, 4), 0);
        x.leave(0);
        due("no buoy", x.about(0, 3), -1);
        due("no boat", x.of(1, 4), -1);
    }

    private static void onlyAtFreeBuoys() {
        BayMoorings x = rowWithBoats(1);
        addBoats(x, 1);
        x.wait(1);
        due("it has one", x.moor(1, 0), STATE);
        due("none gets it", x.most(2, 0), 0);
        x.leave(0);
        due("it is free", x.offer(0), 1);
        due("it is free", x.moor(1, 0), 1);
    }

    private static void onlyIfItFits() {
        BayMoorings x = row(1);
        x.boat(0, 11, 0);
        x.boat(0, 10, 11);
        x.boat(0, 10, 10);
        due("too long", x.moor(0, 0), NONE);
        due("too deep", x.moor(1, 0), NONE);
        due("just right", x.moor(2, 0), 1);
    }

    private static void touchesNoneThatLies() {
        BayMoorings x = new BayMoorings();
        x.buoy(500, 500, 10, 10);
        x.buoy(519, 500, 10, 10);
        addBoats(x, 2);
        due("nobody lies", x.moor(0, 0), 1);
        due("it may touch", x.moor(1, 1), NONE);
        x.leave(0);
        due("nobody lies any more", x.moor(1, 1), 1);
        due("the other may touch", x.moor(0, 0), NONE);
        x.leave(1);
        due("it doesn't touch itself", x.moor(1, 0), 1);
    }

    private static void touchesAtNoHour() {
        for (int hour = 0; hour < 24; hour++) {
            BayMoorings x = touchingAtLowWater();
            x.moor(0, 0);
            x.tide(hour, 0);
            due("low water at hour " + hour, x.moor(1, 1), NONE);
            x.tide(hour, 30);
            due("no more", x.moor(1, 1), 1);
        }
    }

    private static void mostOfFive() {
        BayMoorings x = row(6);
        addBoats(x, 6);
        due("of none", x.most(0, 0), 0);
        due("of one", x.most(1, 0), 1);
        due("of five", x.most(31, 0), 5);
        due("of another five", x.most(62, 0), 5);
        due("of six", x.most(63, 0), BEYOND);
    }

    private static void mostOfThoseThatLieNowhere() {
        BayMoorings x = row(3);
        addBoats(x, 2);
        x.moor(1, 0);
        due("one lies", x.most(3, 0), STATE);
        due("without it", x.most(1, 0), 1);
        x.leave(1);
        due("none lies", x.most(3, 0), 2);
    }

    private static void mostTakesFreeBuoys() {
        BayMoorings x = row(2);
        addBoats(x, 4);
        x.moor(3, 0);
        due("one is free", x.most(7, 0), 1);
        due("the first has it", x.most(7, 1), 1);
        due("the second has none", x.most(7, 2), -1);
        due("the third has none", x.most(7, 3), -1);
        x.moor(2, 1);
        due("none is free", x.most(3, 0), 0);
        due("none is free", x.most(3, 1), -1);
    }

    private static void mostFits() {
        BayMoorings x = row(2);
        x.boat(0, 10, 11);
        x.boat(0, 11, 0);
        x.boat(0, 10, 10);
        due("one fits", x.most(7, 0), 1);
        due("the first doesn't", x.most(7, 1), -1);
        due("the second doesn't", x.most(7, 2), -1);
        due("the third does", x.most(7, 3), 0);
    }

    private static void mostTouchesNone() {
        BayMoorings x = new BayMoorings();
        x.buoy(500, 500, 10, 10);
        x.buoy(519, 500, 10, 10);
        x.buoy(538, 500, 10, 10);
        addBoats(x, 3);
        x.winds(1);
        due("at 0 and 2", x.most(3, 0), 2);
        due("the second", x.most(3, 2), 2);
        due("all three", x.most(7, 0), 2);
        x.moor(2, 1);
        due("beside one that lies", x.most(3, 0), 0);
        x.leave(2);
        x.moor(2, 0);
        due("only 2 is far enough from it", x.most(3, 0), 1);
        due("only 2 is far enough from it", x.most(3, 1), 2);
        BayMoorings y = new BayMoorings();
        y.buoy(500, 500, 10, 10);
        y.buoy(519, 500, 20, 10);
        y.boat(0, 10, 20);
        y.boat(0, 10, 10);
        due("a first at BUOY 1 bars BUOY 0", y.most(3, 0), 1);
        due("the first", y.most(3, 1), 1);
        due("the second", y.most(3, 2), -1);
        mostTouchesByLengths();
    }

    /** Of two long ones at BUOYS 0 and 1 each bars the other, a short one bars none; it alone suits BUOY 2. */
    private static void mostTouchesByLengths() {
        BayMoorings x = new BayMoorings();
        x.buoy(0, 0, 100, 100);
        x.buoy(60, 0, 100, 100);
        x.buoy(900, 0, 100, 10);
        x.boat(0, 10, 0);
        x.boat(0, 100, 0);
        x.boat(0, 100, 0);
        x.winds(1);
        due("a short one and a long one", x.most(7, 0), 2);
        int[] want = {0, 1, -1};
        for (int i = 0; i < 3; i++) {
            due("of three, " + i, x.most(7, 1 + i), want[i]);
        }
    }

    /** BUOY 0 suits BOAT 0 alone, but bars BUOY 1, which alone is deep enough for BOAT 1. */
    private static void mostIsTheMost() {
        BayMoorings x = new BayMoorings();
        x.buoy(0, 0, 10, 10);
        x.buoy(5, 0, 20, 10);
        x.buoy(500, 0, 10, 10);
        x.boat(0, 10, 10);
        x.boat(0, 10, 20);
        due("alone", x.most(1, 1), 0);
        due("both get one", x.most(3, 0), 2);
        due("the first gives way", x.most(3, 1), 2);
        due("for the second", x.most(3, 2), 1);
        BayMoorings y = new BayMoorings();
        y.buoy(0, 0, 20, 10);
        y.buoy(500, 0, 10, 10);
        y.boat(0, 10, 10);
        y.boat(0, 10, 20);
        due("both get one", y.most(3, 0), 2);
        due("the first leaves BUOY 0", y.most(3, 1), 1);
        due("to the second", y.most(3, 2), 0);
    }

    private static void mostGivesTheFirstTheLeast() {
        BayMoorings x = row(4);
        addBoats(x, 8);
        due("boat 7 alone", x.most(1 << 7, 1), 0);
        due("boat 3 with 7", x.most(1 << 7 | 1 << 3, 1), 0);
        due("boat 7 with 3", x.most(1 << 7 | 1 << 3, 2), 1);
        x.moor(0, 0);
        due("the least that is free", x.most(1 << 7, 1), 1);
    }

    private static void noneIsGreaterThanAll() {
        BayMoorings x = row(1);
        addBoats(x, 3);
        due("one of three", x.most(7, 0), 1);
        due("the first", x.most(7, 1), 0);
        due("the second", x.most(7, 2), -1);
        due("the third", x.most(7, 3), -1);
        BayMoorings y = row(11);
        y.buoy(0, 500, 20, 10);
        y.boat(0, 10, 20);
        y.boat(0, 10, 20);
        due("even the last buoy is less than none", y.most(3, 1), 11);
        due("the second has none", y.most(3, 2), -1);
    }

    private static void thenTheSecond() {
        BayMoorings x = row(5);
        addBoats(x, 5);
        for (int i = 0; i < 5; i++) {
            due("of five, " + i, x.most(31, 1 + i), i);
        }
        BayMoorings y = row(2);
        y.buoy(0, 500, 20, 10);
        y.boat(0, 10, 20);
        addBoats(y, 2);
        int[] want = {2, 0, 1};
        for (int i = 0; i < 3; i++) {
            due("the deep one has 2: " + i, y.most(7, 1 + i), want[i]);
        }
    }

    // ---- 3: THE LIST and SWAPS

    private static void termsThree() {
        terms(15, "THE LIST of BOATS that wait, in the order in which they came", TermsTests::listInOrder);
        terms(15, "(10 at most).", TermsTests::tenWait);
        terms(17, "AN OFFER of a free BUOY goes to the first of these that FITS,", TermsTests::offerToTheFirstThatFits);
        terms(17, "MAY LIE there", TermsTests::offerToWhoMayLie);
        terms(17, "and hasn't refused it since it came to THE LIST.", TermsTests::offerToWhoHasNotRefused);
        terms(18, "TAKEN, it lies there and waits no more;", TermsTests::taken);
        terms(18, "REFUSED, it stays in its place (of the way STAYS),", TermsTests::refusedAndStays);
        terms(19, "or goes to the end (of the other way;", TermsTests::refusedAndGoes);
        terms(19, "STAYS at first).", TermsTests::staysAtFirst);
        terms(20, "SWAPS: each BOAT that lies may tell up to 4 BUOYS that it would rather have,", TermsTests::fourWishes);
        terms(22, "in order.", TermsTests::wishesInOrder);
        terms(22, "RINGS: of BOATS that lie and are not yet in a ring, each points at the first BUOY of its row",
            TermsTests::pointsAtTheFirst);
        terms(22, "that isn't gone,", TermsTests::pointsAtNoneThatIsGone);
        terms(22, "has a BOAT", TermsTests::pointsAtNoFreeBuoy);
        terms(22, "that isn't in a ring,", TermsTests::pointsAtNoneInARing);
        terms(22, "and that it FITS;", TermsTests::pointsAtWhatFits);
        terms(22, "else at its own.", TermsTests::pointsAtItsOwn);
        terms(22, "There is a ring of those that point round in a circle:", TermsTests::ringsOfAllSizes);
        terms(22, "the one with the least BOAT is taken first: its BUOYS are gone.", TermsTests::ringOfTheLeastFirst);
        terms(22, "So on till none is left.", TermsTests::ringAfterRing);
        terms(23, "(TOUCHING isn't looked at.)", TermsTests::swapsMayTouch);
    }

    private static void listInOrder() {
        BayMoorings x = new BayMoorings();
        addBoats(x, 4);
        int[] come = {2, 0, 3, 1};
        for (int i = 0; i < 4; i++) {
            due("wait", x.wait(come[i]), i + 1);
        }
        for (int i = 0; i < 4; i++) {
            due("place", x.about(come[i], 4), i);
        }
        x.away(0);
        due("the first", x.about(2, 4), 0);
        due("the one behind", x.about(3, 4), 1);
        due("the last", x.about(1, 4), 2);
        due("it comes to the end", x.wait(0), 4);
        due("the end", x.about(0, 4), 3);
    }

    private static void tenWait() {
        BayMoorings x = new BayMoorings();
        addBoats(x, 11);
        for (int n = 0; n < 10; n++) {
            due("wait", x.wait(n), n + 1);
        }
        due("the 11th", x.wait(10), FULL);
        x.away(4);
        due("there is room", x.wait(10), 10);
        due("the 11th again", x.wait(4), FULL);
    }

    private static void offerToTheFirstThatFits() {
        BayMoorings x = row(1);
        x.boat(0, 11, 0);
        x.boat(0, 10, 11);
        addBoats(x, 2);
        x.wait(0);
        x.wait(1);
        due("none fits", x.offer(0), NONE);
        x.wait(3);
        x.wait(2);
        due("the first that came, not the least", x.offer(0), 3);
        setAllTides(x, 1);
        due("with more water", x.offer(0), 1);
    }

    private static void offerToWhoMayLie() {
        BayMoorings x = new BayMoorings();
        x.buoy(0, 0, 90, 90);
        x.buoy(70, 0, 90, 90);
        x.boat(0, 80, 0);
        x.boat(0, 80, 0);
        x.boat(0, 10, 0);
        x.winds(1);
        x.wait(1);
        x.wait(2);
        due("nobody lies beside it", x.offer(1), 1);
        x.moor(0, 0);
        due("the long one may touch, the short one not", x.offer(1), 2);
        x.away(2);
        due("only the long one waits", x.offer(1), NONE);
    }

    private static void offerToWhoHasNotRefused() {
        BayMoorings x = row(2);
        addBoats(x, 2);
        x.wait(0);
        x.wait(1);
        due("refused", x.answer(0, 0), 0);
        due("offered to the next", x.offer(0), 1);
        due("another buoy", x.offer(1), 0);
        due("refused", x.answer(0, 0), 1);
        due("both have refused", x.offer(0), NONE);
        x.away(0);
        x.wait(0);
        due("it came anew", x.offer(0), 0);
        x.moor(1, 1);
        x.leave(1);
        x.wait(1);
        x.away(0);
        due("it came anew from a buoy", x.offer(0), 1);
    }

    private static void taken() {
        BayMoorings x = row(1);
        addBoats(x, 3);
        for (int n = 0; n < 3; n++) {
            x.wait(n);
        }
        x.answer(0, 0);
        due("taken", x.answer(0, 1), 1);
        due("it lies there", x.about(1, 3), 0);
        due("the buoy has it", x.of(0, 4), 1);
        due("it waits no more", x.about(1, 4), -1);
        due("the first is first", x.about(0, 4), 0);
        due("the last moves up", x.about(2, 4), 1);
    }

    private static void refusedAndStays() {
        BayMoorings x = row(1);
        addBoats(x, 3);
        for (int n = 0; n < 3; n++) {
            x.wait(n);
        }
        for (int n = 0; n < 3; n++) {
            due("refused", x.answer(0, 0), n);
            due("it lies nowhere", x.about(n, 3), -1);
        }
        for (int n = 0; n < 3; n++) {
            due("its place", x.about(n, 4), n);
        }
        due("the buoy is free", x.of(0, 4), -1);
    }

    private static void refusedAndGoes() {
        BayMoorings x = row(1);
        addBoats(x, 3);
        for (int n = 0; n < 3; n++) {
            x.wait(n);
        }
        x.stays(0);
        due("refused", x.answer(0, 0), 0);
        int[] places = {2, 0, 1};
        for (int n = 0; n < 3; n++) {
            due("its place", x.about(n, 4), places[n]);
        }
        due("refused", x.answer(0, 0), 1);
        due("refused", x.answer(0, 0), 2);
        for (int n = 0; n < 3; n++) {
            due("round once", x.about(n, 4), n);
        }
        due("to the end isn't to come anew", x.offer(0), NONE);
        x.away(1);
        x.away(2);
        due("alone it is first and last", x.about(0, 4), 0);
    }

    private static void staysAtFirst() {
        BayMoorings x = new BayMoorings();
        due("stays(0)", x.stays(0), 1);
        due("stays(1)", x.stays(1), 0);
    }

    private static void fourWishes() {
        BayMoorings x = rowWithBoats(6);
        for (int b = 1; b <= 4; b++) {
            due("rather", x.rather(0, b), b);
        }
        due("a fifth", x.rather(0, 5), FULL);
        due("another boat's first", x.rather(1, 5), 1);
    }

    private static void wishesInOrder() {
        BayMoorings x = rowWithBoats(3);
        x.rather(1, 0);
        x.rather(2, 0);
        x.rather(0, 2);
        x.rather(0, 1);
        due("the first of the row", x.ring(0), 2);
        x.content(0);
        x.rather(0, 1);
        x.rather(0, 2);
        due("in the other order", x.ring(0), 1);
    }

    private static void pointsAtTheFirst() {
        BayMoorings x = rowWithBoats(3);
        x.rather(0, 1);
        x.rather(0, 2);
        x.rather(1, 0);
        x.rather(2, 0);
        due("ring(0)", x.ring(0), 1);
        due("ring(1)", x.ring(1), 0);
        due("ring(2)", x.ring(2), 2);
    }

    /** BOATS 0 and 1 are a ring, then BUOY 0 is gone, so that BOAT 2 points at its second wish. */
    private static void pointsAtNoneThatIsGone() {
        BayMoorings x = rowWithBoats(4);
        x.rather(0, 1);
        x.rather(1, 0);
        x.rather(2, 0);
        x.rather(2, 3);
        x.rather(3, 1);
        x.rather(3, 0);
        x.rather(3, 2);
        int[] want = {1, 0, 3, 2};
        for (int n = 0; n < 4; n++) {
            due("ring(" + n + ")", x.ring(n), want[n]);
        }
    }

    private static void pointsAtNoFreeBuoy() {
        BayMoorings x = rowWithBoats(3);
        x.leave(2);
        x.rather(0, 2);
        x.rather(0, 1);
        x.rather(1, 0);
        due("ring(0)", x.ring(0), 1);
        due("ring(1)", x.ring(1), 0);
        x.content(0);
        x.rather(0, 2);
        due("only a free one", x.ring(0), 0);
    }

    /** BOAT 1 points at its own, a ring by itself; who wishes for it gets the next. */
    private static void pointsAtNoneInARing() {
        BayMoorings x = rowWithBoats(3);
        x.rather(0, 1);
        x.rather(0, 2);
        x.rather(2, 1);
        x.rather(2, 0);
        int[] want = {2, 1, 0};
        for (int n = 0; n < 3; n++) {
            due("ring(" + n + ")", x.ring(n), want[n]);
        }
    }

    private static void pointsAtWhatFits() {
        BayMoorings x = new BayMoorings();
        x.buoy(0, 0, 20, 10);
        x.buoy(300, 0, 10, 10);
        x.buoy(600, 0, 20, 10);
        x.boat(0, 10, 11);
        addBoats(x, 2);
        for (int n = 0; n < 3; n++) {
            x.moor(n, n);
            x.rather(n, 0);
        }
        x.content(0);
        x.rather(0, 1);
        x.rather(0, 2);
        int[] want = {2, 1, 0};
        for (int n = 0; n < 3; n++) {
            due("ring(" + n + ")", x.ring(n), want[n]);
        }
        setAllTides(x, 1);
        due("with more water", x.ring(0), 1);
    }

    private static void pointsAtItsOwn() {
        BayMoorings x = rowWithBoats(3);
        due("it tells nothing", x.ring(0), 0);
        x.rather(1, 1);
        x.rather(1, 0);
        x.rather(0, 1);
        due("it tells its own first", x.ring(1), 1);
        due("so the other keeps its own", x.ring(0), 0);
        BayMoorings y = row(2);
        y.boat(0, 10, 10);
        y.boat(0, 10, 10);
        setAllTides(y, 0);
        y.moor(0, 0);
        y.moor(1, 1);
        due("who fits nowhere else keeps its own", y.ring(0), 0);
    }

    private static void ringsOfAllSizes() {
        for (int size = 1; size <= 12; size++) {
            BayMoorings x = rowWithBoats(12);
            for (int n = 0; n < size; n++) {
                x.rather(n, (n + 1) % size);
            }
            for (int n = 0; n < 12; n++) {
                due("ring of " + size + ", boat " + n, x.ring(n), n < size ? (n + 1) % size : n);
            }
        }
        BayMoorings y = row(12);
        addBoats(y, 16);
        for (int n = 4; n < 16; n++) {
            y.moor(n, n - 4);
        }
        y.rather(4, 11);
        y.rather(15, 0);
        due("the last boat", y.ring(15), 0);
        due("with the first that lies", y.ring(4), 11);
    }

    /** BOAT 0 waits for a BUOY that two rings before it leave or don't leave: 1 with 2, then 3 alone, then 0. */
    private static void ringOfTheLeastFirst() {
        BayMoorings x = rowWithBoats(4);
        x.rather(0, 1);
        x.rather(0, 3);
        x.rather(1, 2);
        x.rather(2, 1);
        x.rather(3, 1);
        x.rather(3, 0);
        int[] want = {3, 2, 1, 0};
        for (int n = 0; n < 4; n++) {
            due("ring(" + n + ")", x.ring(n), want[n]);
        }
    }

    private static void ringAfterRing() {
        BayMoorings x = rowWithBoats(12);
        for (int n = 0; n < 12; n++) {
            x.rather(n, n / 2 * 2);
            x.rather(n, n / 2 * 2 + 1);
        }
        for (int n = 0; n < 12; n++) {
            due("the even ones keep their own: " + n, x.ring(n), n);
        }
        for (int n = 0; n < 12; n += 2) {
            x.content(n);
            x.rather(n, n + 1);
        }
        for (int n = 0; n < 12; n++) {
            due("six rings of two: " + n, x.ring(n), n % 2 == 0 ? n + 1 : n - 1);
        }
        due("all lie elsewhere", x.swap(), 12);
    }

    /** The long ones lie far apart, and would TOUCH after the swap. */
    private static void swapsMayTouch() {
        BayMoorings x = new BayMoorings();
        x.buoy(0, 0, 100, 100);
        x.buoy(50, 0, 100, 100);
        x.buoy(900, 900, 100, 100);
        x.boat(0, 100, 0);
        x.boat(0, 10, 0);
        x.boat(0, 100, 0);
        x.winds(1);
        due("moor(0, 0)", x.moor(0, 0), 1);
        due("moor(1, 1)", x.moor(1, 1), 1);
        due("moor(2, 2)", x.moor(2, 2), 1);
        due("they would touch", x.touch(0, 0, 2, 1), 0);
        x.rather(2, 1);
        x.rather(1, 2);
        due("ring(2)", x.ring(2), 1);
        due("swap()", x.swap(), 2);
        due("it lies beside the other", x.about(2, 3), 1);
    }

    // ---- 4: WEAR, LOOKS, STORMS

    private static void termsFour() {
        terms(8, "WEAR of a CHAIN is between LOW and HIGH (hundredths of what it was: 0 .. 100;", TermsTests::wearBounds);
        terms(8, "both 0 when it comes).", TermsTests::wearAtFirst);
        terms(24, "A YEAR: HIGH is 12 more and LOW 3 more,", TermsTests::aYear);
        terms(24, "of a BUOY with a BOAT of a LENGTH of 150 or more HIGH 8 more than that", TermsTests::aYearUnderALongBoat);
        terms(24, "(100 at most, both).", TermsTests::hundredAtMost);
        terms(25, "A LOOK tells that it is v or more,", TermsTests::lookForMore);
        terms(25, "or less than v:", TermsTests::lookForLess);
        terms(25, "LOW or HIGH follow.", TermsTests::lookNeverLoosens);
        terms(8, "It is PARTED when LOW is 60 or more.", TermsTests::partedFromSixty);
        terms(26, "THE NEXT LOOK: the BUOY with the greatest HIGH less LOW,", TermsTests::nextByDoubt);
        terms(26, "of several the one with the greatest HIGH,", TermsTests::nextByHigh);
        terms(26, "then the least number.", TermsTests::nextByNumber);
        terms(27, "A new CHAIN: both 0.", TermsTests::newChain);
        terms(28, "A STORM of force s (1 .. 100):", TermsTests::forces);
        terms(28, "a BOAT that lies HOLDS if HIGH of its BUOY's CHAIN and s", TermsTests::holdsByHigh);
        terms(28, "and a tenth of its LENGTH are 100 at most.", TermsTests::holdsByLength);
        terms(28, "Those that don't flee: each, by numbers,", TermsTests::fleeByNumbers);
        terms(29, "to the free BUOY with the least number", TermsTests::fleeToTheLeastFree);
        terms(29, "at which it FITS,", TermsTests::fleeToWhereItFits);
        terms(29, "MAY LIE (those that fled lying where they are then)", TermsTests::fleeToWhereItMayLie);
        terms(29, "and HOLDS;", TermsTests::fleeToWhereItHolds);
        terms(29, "else to nowhere.", TermsTests::fleeToNowhere);
    }

    private static void wear(BayMoorings x, int buoy, int low, int high) {
        due("low of " + buoy, x.of(buoy, 5), low);
        due("high of " + buoy, x.of(buoy, 6), high);
    }

    private static void wearBounds() {
        BayMoorings x = row(1);
        for (int year = 1; year <= 40; year++) {
            x.years(1);
            wear(x, 0, Math.min(3 * year, 100), Math.min(12 * year, 100));
        }
    }

    private static void wearAtFirst() {
        BayMoorings x = row(1);
        wear(x, 0, 0, 0);
        x.years(1);
        x.buoy(80, 0, 10, 10);
        wear(x, 1, 0, 0);
        wear(x, 0, 3, 12);
    }

    private static void aYear() {
        BayMoorings x = row(2);
        addBoats(x, 1);
        x.moor(0, 0);
        x.years(1);
        wear(x, 0, 3, 12);
        wear(x, 1, 3, 12);
        x.years(2);
        wear(x, 0, 9, 36);
        wear(x, 1, 9, 36);
    }

    private static void aYearUnderALongBoat() {
        BayMoorings x = new BayMoorings();
        x.buoy(0, 0, 300, 300);
        x.buoy(999, 0, 300, 300);
        x.buoy(0, 999, 300, 300);
        x.boat(0, 149, 0);
        x.boat(0, 150, 0);
        x.boat(1, 151, 0);
        for (int n = 0; n < 3; n++) {
            due("moor", x.moor(n, n), 1);
        }
        x.years(1);
        wear(x, 0, 3, 12);
        wear(x, 1, 3, 20);
        wear(x, 2, 3, 20);
        x.leave(1);
        x.years(1);
        wear(x, 1, 6, 32);
        wear(x, 2, 6, 40);
    }

    private static void hundredAtMost() {
        BayMoorings x = row(1);
        x.years(8);
        wear(x, 0, 24, 96);
        x.years(1);
        wear(x, 0, 27, 100);
        x.years(24);
        wear(x, 0, 99, 100);
        x.years(1);
        wear(x, 0, 100, 100);
        x.years(30);
        wear(x, 0, 100, 100);
        BayMoorings y = new BayMoorings();
        y.buoy(0, 0, 300, 300);
        y.boat(0, 150, 0);
        y.moor(0, 0);
        y.years(5);
        wear(y, 0, 15, 100);
        y.years(1);
        wear(y, 0, 18, 100);
    }

    private static void lookForMore() {
        BayMoorings x = row(1);
        x.years(5);
        due("16 or more", x.look(0, 16, 1), 44);
        wear(x, 0, 16, 60);
        due("60 or more", x.look(0, 60, 1), 0);
        wear(x, 0, 60, 60);
    }

    private static void lookForLess() {
        BayMoorings x = row(1);
        x.years(5);
        due("less than 60", x.look(0, 60, 0), 44);
        wear(x, 0, 15, 59);
        due("less than 16", x.look(0, 16, 0), 0);
        wear(x, 0, 15, 15);
    }

    private static void lookNeverLoosens() {
        BayMoorings x = row(1);
        x.years(5);
        due("0 or more", x.look(0, 0, 1), 45);
        due("15 or more", x.look(0, 15, 1), 45);
        due("less than 61", x.look(0, 61, 0), 45);
        due("less than 100", x.look(0, 100, 0), 45);
        wear(x, 0, 15, 60);
    }

    private static void partedFromSixty() {
        BayMoorings x = row(1);
        x.years(19);
        due("57", x.of(0, 7), 0);
        x.look(0, 59, 1);
        due("59", x.of(0, 7), 0);
        due("59", x.count(5), 0);
        x.look(0, 60, 1);
        due("60", x.of(0, 7), 1);
        due("60", x.count(5), 1);
        x.look(0, 61, 1);
        due("61", x.of(0, 7), 1);
        BayMoorings y = row(1);
        due("19 years: 57", y.years(19), 0);
        due("20 years: 60", y.years(1), 1);
    }

    private static void nextByDoubt() {
        BayMoorings x = row(3);
        x.years(5);
        x.look(0, 16, 1);
        x.look(2, 59, 0);
        due("44, 45, 43", x.next(), 1);
        x.look(1, 18, 1);
        due("44, 42, 43", x.next(), 0);
        x.renew(0);
        due("0, 42, 43", x.next(), 2);
    }

    private static void nextByHigh() {
        BayMoorings x = row(2);
        x.years(5);
        x.look(0, 60, 0);
        x.look(1, 16, 1);
        due("15 to 59 and 16 to 60", x.next(), 1);
        x.renew(0);
        x.renew(1);
        x.years(1);
        x.look(0, 12, 0);
        x.look(1, 4, 1);
        due("3 to 11 and 4 to 12", x.next(), 1);
    }

    private static void nextByNumber() {
        BayMoorings x = row(12);
        due("all alike", x.next(), 0);
        x.years(3);
        due("all alike", x.next(), 0);
        x.renew(0);
        due("all but the first", x.next(), 1);
        for (int b = 1; b < 11; b++) {
            x.renew(b);
        }
        due("the last", x.next(), 11);
        x.renew(11);
        due("all alike again", x.next(), 0);
    }

    private static void newChain() {
        BayMoorings x = row(2);
        x.years(30);
        x.renew(0);
        wear(x, 0, 0, 0);
        wear(x, 1, 90, 100);
        due("parted no more", x.of(0, 7), 0);
    }

    private static void forces() {
        BayMoorings x = rowWithBoats(1);
        due("0", x.storm(0), BEYOND);
        due("1", x.storm(1), 0);
        due("100", x.storm(100), 1);
        due("101", x.storm(101), BEYOND);
        due("0", x.fled(0, 0), BEYOND);
        due("1", x.fled(0, 1), 0);
        due("100", x.fled(0, 100), -1);
        due("101", x.fled(0, 101), BEYOND);
    }

    private static void holdsByHigh() {
        BayMoorings x = rowWithBoats(1);
        x.years(3);
        due("36 and 63 and 1", x.storm(63), 0);
        due("36 and 64 and 1", x.storm(64), 1);
        x.look(0, 36, 0);
        due("35 and 64 and 1", x.storm(64), 0);
        due("35 and 65 and 1", x.storm(65), 1);
        x.look(0, 30, 1);
        due("LOW doesn't count", x.storm(64), 0);
    }

    private static int heldBy(int length, int force) {
        BayMoorings x = new BayMoorings();
        x.buoy(0, 0, 300, 300);
        x.boat(0, length, 0);
        x.moor(0, 0);
        return x.storm(force);
    }

    private static void holdsByLength() {
        due("10: 1 and 99", heldBy(10, 99), 0);
        due("10: 1 and 100", heldBy(10, 100), 1);
        due("19: 1 and 99", heldBy(19, 99), 0);
        due("20: 2 and 99", heldBy(20, 99), 1);
        due("20: 2 and 98", heldBy(20, 98), 0);
        due("300: 30 and 70", heldBy(300, 70), 0);
        due("300: 30 and 71", heldBy(300, 71), 1);
        due("299: 29 and 71", heldBy(299, 71), 0);
    }

    /** Both flee, and there is one BUOY that holds. */
    private static void fleeByNumbers() {
        BayMoorings x = row(3);
        addBoats(x, 2);
        x.moor(1, 0);
        x.moor(0, 1);
        x.years(1);
        x.renew(2);
        due("both flee", x.storm(90), 2);
        due("the first gets it", x.fled(0, 90), 2);
        due("the second doesn't", x.fled(1, 90), -1);
    }

    private static void fleeToTheLeastFree() {
        BayMoorings x = row(5);
        addBoats(x, 2);
        x.moor(0, 2);
        x.moor(1, 0);
        x.years(1);
        x.renew(0);
        x.renew(3);
        x.renew(4);
        due("0 isn't free, 1 doesn't hold", x.fled(0, 90), 3);
        x.leave(1);
        due("0 is free", x.fled(0, 90), 0);
    }

    private static void fleeToWhereItFits() {
        BayMoorings x = new BayMoorings();
        x.buoy(0, 0, 10, 20);
        x.buoy(300, 0, 20, 10);
        x.buoy(600, 0, 20, 20);
        x.buoy(900, 0, 20, 20);
        x.boat(0, 20, 20);
        x.moor(0, 3);
        x.years(1);
        for (int b = 0; b < 3; b++) {
            x.renew(b);
        }
        due("0 is too shallow, the chain of 1 too short", x.fled(0, 90), 2);
        setAllTides(x, 10);
        due("with more water", x.fled(0, 90), 0);
    }

    /** BUOYS 1 and 2 lie so near that only one of both can have a BOAT; BUOYS 0 and 3 hold nobody. */
    private static void fleeToWhereItMayLie() {
        BayMoorings x = new BayMoorings();
        x.buoy(0, 0, 10, 10);
        x.buoy(300, 0, 10, 10);
        x.buoy(305, 0, 10, 10);
        x.buoy(600, 0, 10, 10);
        x.buoy(900, 0, 10, 10);
        addBoats(x, 3);
        x.moor(0, 0);
        x.moor(1, 3);
        x.years(1);
        for (int b = 1; b <= 2; b++) {
            x.renew(b);
        }
        due("the first", x.fled(0, 90), 1);
        due("beside the one that fled it may not lie", x.fled(1, 90), -1);
        x.renew(4);
        due("farther off", x.fled(1, 90), 4);
        x.moor(2, 1);
        due("beside one that holds it may not lie", x.fled(0, 90), 4);
        due("beside one that holds it may not lie", x.fled(1, 90), -1);
        due("it holds", x.fled(2, 90), 1);
    }

    private static void fleeToWhereItHolds() {
        BayMoorings x = new BayMoorings();
        for (int n = 0; n < 3; n++) {
            x.buoy(400 * n, 0, 100, 100);
        }
        x.boat(0, 100, 0);
        x.moor(0, 0);
        x.years(3);
        x.look(1, 35, 0);
        x.look(2, 34, 0);
        due("36 and 54 and 10", x.fled(0, 54), 0);
        due("34 and 56 and 10", x.fled(0, 56), 1);
        due("33 and 57 and 10", x.fled(0, 57), 2);
        due("33 and 58 and 10", x.fled(0, 58), -1);
    }

    private static void fleeToNowhere() {
        BayMoorings x = rowWithBoats(2);
        due("no buoy is free", x.fled(0, 100), -1);
        due("no buoy is free", x.fled(1, 100), -1);
        due("both flee", x.storm(100), 2);
        due("nothing changes", x.count(2), 2);
    }

    // ---- 5: DUES

    private static void termsFive() {
        terms(31, "DUES of a BOAT that lies:", TermsTests::duesOfThoseThatLie);
        terms(30, "LENGTH times RATE (0 .. 100;", TermsTests::rates);
        terms(30, "3 at first)", TermsTests::rateAtFirst);
        terms(31, "by 10, rounded up;", TermsTests::duesRoundedUp);
        terms(31, "of a TWIN half as much again (cut).", TermsTests::duesOfTwins);
    }

    private static void duesOfThoseThatLie() {
        BayMoorings x = row(1);
        addBoats(x, 2);
        due("none lies", x.dues(), 0);
        due("it lies nowhere", x.about(0, 5), 0);
        x.moor(0, 0);
        due("one lies", x.dues(), 3);
        due("it lies", x.about(0, 5), 3);
        due("the other doesn't", x.about(1, 5), 0);
        x.leave(0);
        due("none lies", x.dues(), 0);
    }

    private static void rates() {
        BayMoorings x = new BayMoorings();
        x.boat(0, 300, 0);
        due("-1", x.rate(-1), BEYOND);
        due("101", x.rate(101), BEYOND);
        due("0", x.rate(0), 3);
        due("300 times 0", x.as(0, 0), 0);
        due("1", x.rate(1), 0);
        due("300 times 1", x.as(0, 0), 30);
        due("100", x.rate(100), 1);
        due("300 times 100", x.as(0, 0), 3000);
        due("99", x.rate(99), 100);
    }

    private static void rateAtFirst() {
        BayMoorings x = new BayMoorings();
        x.boat(0, 10, 0);
        due("10 times 3", x.as(0, 0), 3);
        due("rate(5)", x.rate(5), 3);
    }

    private static void duesRoundedUp() {
        BayMoorings x = new BayMoorings();
        x.boat(0, 10, 0);
        x.boat(0, 11, 0);
        x.boat(2, 19, 0);
        x.rate(1);
        due("1.0", x.as(0, 0), 1);
        due("1.1", x.as(1, 0), 2);
        due("1.9", x.as(2, 0), 2);
        x.rate(9);
        due("9.0", x.as(0, 0), 9);
        due("9.9", x.as(1, 0), 10);
        due("17.1", x.as(2, 0), 18);
    }

    private static void duesOfTwins() {
        BayMoorings x = new BayMoorings();
        x.boat(1, 10, 0);
        x.boat(1, 11, 0);
        due("3 and 1.5", x.as(0, 1), 4);
        due("3.3 up, 4 and 2", x.as(1, 1), 6);
        x.rate(1);
        due("1 and 0.5", x.as(0, 1), 1);
        due("1.1 up, 2 and 1", x.as(1, 1), 3);
        x.rate(0);
        due("0", x.as(0, 1), 0);
        x.rate(100);
        due("100 and 50", x.as(0, 1), 150);
    }
}
