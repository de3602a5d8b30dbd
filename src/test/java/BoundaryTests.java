/**
 * The promises, sentence by sentence: every finding that a promise names, each of its causes just beyond the bound and
 * the last case that is still within it, and what the promise says of the answer.
 */
public final class BoundaryTests extends DocTest {
    private static final int[] FAR = {Integer.MIN_VALUE, -1000001, -1, 16, 1000, Integer.MAX_VALUE};

    public static void main(String[] args) {
        theBay();
        water();
        places();
        lying();
        theList();
        swaps();
        chains();
        storms();
        dues();
        whatIsTold();
        lastCall();
        promisesAreQuoted();
        end();
    }

    // ---- promises 1 to 4

    private static void theBay() {
        says(1, "No BUOYS, no BOATS.", BoundaryTests::newObject);
        says(2, "A BUOY comes: its number.", BoundaryTests::buoysByNumber);
        says(2, "BEYOND: x, y, depth, or chain aren't as told.", BoundaryTests::buoyBeyond);
        says(2, "FULL.", BoundaryTests::buoysFull);
        says(3, "A BOAT comes: its number.", BoundaryTests::boatsByNumber);
        says(3, "BEYOND: kind, length, or draught aren't as told.", BoundaryTests::boatBeyond);
        says(3, "FULL.", BoundaryTests::boatsFull);
        says(4, "A BOAT as one of a kind: its DUES, if it lay.", BoundaryTests::asIfItLay);
        says(4, "BEYOND: there is no such one, or kind.", BoundaryTests::asBeyond);
        says(4, "KIND: it isn't of that kind, nor of one under it.", BoundaryTests::asOfAnotherKind);
    }

    private static void newObject() {
        BayMoorings x = new BayMoorings();
        due("buoys", x.count(0), 0);
        due("boats", x.count(1), 0);
        due("of(0, 0)", x.of(0, 0), BEYOND);
        due("about(0, 0)", x.about(0, 0), BEYOND);
        due("out(0, 0, 0)", x.out(0, 0, 0), BEYOND);
        due("fits(0, 0)", x.fits(0, 0), BEYOND);
        due("touch(0, 0, 1, 1)", x.touch(0, 0, 1, 1), BEYOND);
        due("most(0, 0)", x.most(0, 0), 0);
        due("most(1, 0)", x.most(1, 0), BEYOND);
        due("next()", x.next(), NONE);
        due("swap()", x.swap(), 0);
        due("check()", x.check(), 0);
        due("dues()", x.dues(), 0);
        due("storm(100)", x.storm(100), 0);
        due("years(30)", x.years(30), 0);
        due("the first buoy", x.buoy(0, 0, 0, 10), 0);
        due("another object has none", new BayMoorings().count(0), 0);
    }

    private static void buoysByNumber() {
        BayMoorings x = new BayMoorings();
        due("the first", x.buoy(5, 6, 7, 18), 0);
        due("one beyond", x.buoy(5, 6, 7, 9), BEYOND);
        due("no number is lost", x.buoy(5, 6, 7, 28), 1);
        due("of(1, 3)", x.of(1, 3), 28);
    }

    private static void buoyBeyond() {
        int[] within = {500, 500, 100, 100};
        int[] least = {0, 0, 0, 10};
        int[] greatest = {999, 999, 300, 400};
        for (int i = 0; i < 4; i++) {
            due("least of " + i, buoyWith(within, i, least[i]), 0);
            due("less than that", buoyWith(within, i, least[i] - 1), BEYOND);
            due("greatest of " + i, buoyWith(within, i, greatest[i]), 0);
            due("more than that", buoyWith(within, i, greatest[i] + 1), BEYOND);
            due("far below", buoyWith(within, i, Integer.MIN_VALUE), BEYOND);
            due("far above", buoyWith(within, i, Integer.MAX_VALUE), BEYOND);
        }
    }

    private static int buoyWith(int[] given, int place, int v) {
        int[] a = given.clone();
        a[place] = v;
        return new BayMoorings().buoy(a[0], a[1], a[2], a[3]);
    }

    private static void buoysFull() {
        BayMoorings x = row(11);
        due("the 12th", x.buoy(900, 0, 10, 10), 11);
        due("the 13th", x.buoy(900, 100, 10, 10), FULL);
        due("again", x.buoy(900, 100, 10, 10), FULL);
        due("count(0)", x.count(0), 12);
        due("found(4)", x.found(4), 2);
    }

    private static void boatsByNumber() {
        BayMoorings x = new BayMoorings();
        due("the first", x.boat(1, 20, 3), 0);
        due("one beyond", x.boat(1, 9, 3), BEYOND);
        due("no number is lost", x.boat(2, 30, 4), 1);
        due("about(1, 1)", x.about(1, 1), 30);
    }

    private static void boatBeyond() {
        int[] within = {1, 100, 50};
        int[] least = {0, 10, 0};
        int[] greatest = {2, 300, 100};
        for (int i = 0; i < 3; i++) {
            due("least of " + i, boatWith(within, i, least[i]), 0);
            due("less than that", boatWith(within, i, least[i] - 1), BEYOND);
            due("greatest of " + i, boatWith(within, i, greatest[i]), 0);
            due("more than that", boatWith(within, i, greatest[i] + 1), BEYOND);
            due("far below", boatWith(within, i, Integer.MIN_VALUE), BEYOND);
            due("far above", boatWith(within, i, Integer.MAX_VALUE), BEYOND);
        }
    }

    private static int boatWith(int[] given, int place, int v) {
        int[] a = given.clone();
        a[place] = v;
        return new BayMoorings().boat(a[0], a[1], a[2]);
    }

    private static void boatsFull() {
        BayMoorings x = new BayMoorings();
        addBoats(x, 15);
        due("the 16th", x.boat(0, 10, 0), 15);
        due("the 17th", x.boat(0, 10, 0), FULL);
        due("again", x.boat(2, 300, 100), FULL);
        due("count(1)", x.count(1), 16);
        due("found(4)", x.found(4), 2);
    }

    private static void asIfItLay() {
        BayMoorings x = row(1);
        x.boat(1, 10, 0);
        due("it lies nowhere", x.as(0, 1), 4);
        due("as a BOAT it is a TWIN still", x.as(0, 0), 4);
        due("no dues", x.dues(), 0);
        x.moor(0, 0);
        due("it lies", x.as(0, 1), 4);
        x.rate(10);
        due("by another rate", x.as(0, 1), 15);
        due("as dues are", x.about(0, 5), 15);
    }

    private static void asBeyond() {
        BayMoorings x = new BayMoorings();
        due("there is none", x.as(0, 0), BEYOND);
        addBoats(x, 1);
        due("there is one", x.as(0, 0), 3);
        due("no second", x.as(1, 0), BEYOND);
        for (int boat : FAR) {
            due("boat " + boat, x.as(boat, 0), BEYOND);
        }
        due("kind -1", x.as(0, -1), BEYOND);
        due("kind 3", x.as(0, 3), BEYOND);
        due("kind far above", x.as(0, Integer.MAX_VALUE), BEYOND);
        due("kind far below", x.as(0, Integer.MIN_VALUE), BEYOND);
        due("found(5)", x.found(5), 0);
    }

    private static void asOfAnotherKind() {
        BayMoorings x = new BayMoorings();
        for (int kind = 0; kind <= 2; kind++) {
            x.boat(kind, 10, 0);
        }
        due("a BOAT is no TWIN", x.as(0, 1), KIND);
        due("a BOAT is no DRY", x.as(0, 2), KIND);
        due("a TWIN is no DRY", x.as(1, 2), KIND);
        due("a DRY is no TWIN", x.as(2, 1), KIND);
        due("a DRY is a BOAT", x.as(2, 0), 3);
        due("a DRY is a DRY", x.as(2, 2), 3);
        due("found(5)", x.found(5), 4);
    }

    // ---- promises 5 to 8

    private static void water() {
        says(5, "TIDE of an HOUR: what it was.", BoundaryTests::tideWas);
        says(5, "BEYOND.", BoundaryTests::tideBeyond);
        says(6, "WINDS that there are, as bits (1 .. 255): what they were.", BoundaryTests::windsWere);
        says(6, "BEYOND.", BoundaryTests::windsBeyond);
        says(7, "Of a BOAT: 0 KIND, 1 LENGTH, 2 DRAUGHT,", BoundaryTests::aboutAsItCame);
        says(7, "3 its BUOY (-1),", BoundaryTests::aboutItsBuoy);
        says(7, "4 its place on THE LIST from 0 on (-1),", BoundaryTests::aboutItsPlace);
        says(7, "5 its DUES (0: it lies nowhere).", BoundaryTests::aboutItsDues);
        says(7, "BEYOND: there is no such one, or another what.", BoundaryTests::aboutBeyond);
        says(8, "Of a BUOY: 0 x, 1 y, 2 DEPTH, 3 CHAIN,", BoundaryTests::ofAsItCame);
        says(8, "4 its BOAT (-1),", BoundaryTests::ofItsBoat);
        says(8, "5 LOW, 6 HIGH, 7 1 if PARTED.", BoundaryTests::ofItsWear);
        says(8, "BEYOND: there is no such one, or another what.", BoundaryTests::ofBeyond);
    }

    private static void tideWas() {
        BayMoorings x = new BayMoorings();
        due("at first", x.tide(23, 200), 0);
        due("another hour", x.tide(22, 5), 0);
        due("what it was", x.tide(23, 1), 200);
        due("the same again", x.tide(23, 1), 1);
        due("another hour", x.tide(22, 0), 5);
    }

    private static void tideBeyond() {
        BayMoorings x = new BayMoorings();
        x.tide(0, 9);
        x.tide(23, 8);
        due("hour -1", x.tide(-1, 0), BEYOND);
        due("hour 24", x.tide(24, 0), BEYOND);
        due("v -1", x.tide(0, -1), BEYOND);
        due("v 201", x.tide(0, 201), BEYOND);
        for (int far : FAR) {
            due("hour " + far, x.tide(far, 201), BEYOND);
        }
        due("hour 0 is as it was", x.tide(0, 200), 9);
        due("hour 23 is as it was", x.tide(23, 0), 8);
    }

    private static void windsWere() {
        BayMoorings x = new BayMoorings();
        due("at first", x.winds(1), 255);
        due("one", x.winds(128), 1);
        due("another", x.winds(255), 128);
        due("all", x.winds(255), 255);
    }

    private static void windsBeyond() {
        BayMoorings x = new BayMoorings();
        x.winds(85);
        due("0", x.winds(0), BEYOND);
        due("256", x.winds(256), BEYOND);
        due("257", x.winds(257), BEYOND);
        due("-1", x.winds(-1), BEYOND);
        due("far below", x.winds(Integer.MIN_VALUE), BEYOND);
        due("far above", x.winds(Integer.MAX_VALUE), BEYOND);
        due("as they were", x.winds(1), 85);
    }

    private static void aboutAsItCame() {
        BayMoorings x = new BayMoorings();
        x.boat(2, 300, 100);
        due("kind", x.about(0, 0), 2);
        due("length", x.about(0, 1), 300);
        due("draught, though half is enough", x.about(0, 2), 100);
    }

    private static void aboutItsBuoy() {
        BayMoorings x = row(12);
        addBoats(x, 1);
        due("none", x.about(0, 3), -1);
        x.moor(0, 11);
        due("the last", x.about(0, 3), 11);
        x.leave(0);
        x.moor(0, 0);
        due("the first", x.about(0, 3), 0);
        x.leave(0);
        due("none", x.about(0, 3), -1);
    }

    private static void aboutItsPlace() {
        BayMoorings x = new BayMoorings();
        addBoats(x, 11);
        due("none", x.about(0, 4), -1);
        for (int n = 10; n > 0; n--) {
            x.wait(n);
        }
        due("the first", x.about(10, 4), 0);
        due("the last", x.about(1, 4), 9);
        due("none", x.about(0, 4), -1);
    }

    private static void aboutItsDues() {
        BayMoorings x = row(1);
        addBoats(x, 1);
        due("it lies nowhere", x.about(0, 5), 0);
        x.wait(0);
        due("it waits", x.about(0, 5), 0);
        x.answer(0, 1);
        due("it lies", x.about(0, 5), 3);
        x.leave(0);
        due("it lies nowhere again", x.about(0, 5), 0);
    }

    private static void aboutBeyond() {
        BayMoorings x = new BayMoorings();
        due("there is none", x.about(0, 0), BEYOND);
        addBoats(x, 1);
        due("no second", x.about(1, 0), BEYOND);
        for (int boat : FAR) {
            due("boat " + boat, x.about(boat, 0), BEYOND);
        }
        due("what 5", x.about(0, 5), 0);
        due("what 6", x.about(0, 6), BEYOND);
        due("what -1", x.about(0, -1), BEYOND);
        due("what far above", x.about(0, Integer.MAX_VALUE), BEYOND);
        due("what far below", x.about(0, Integer.MIN_VALUE), BEYOND);
    }

    private static void ofAsItCame() {
        BayMoorings x = new BayMoorings();
        x.buoy(999, 1, 300, 400);
        due("x", x.of(0, 0), 999);
        due("y", x.of(0, 1), 1);
        due("depth", x.of(0, 2), 300);
        setAllTides(x, 50);
        due("depth, whatever the tide", x.of(0, 2), 300);
        due("chain", x.of(0, 3), 400);
    }

    private static void ofItsBoat() {
        BayMoorings x = row(1);
        addBoats(x, 16);
        due("none", x.of(0, 4), -1);
        x.moor(15, 0);
        due("the last", x.of(0, 4), 15);
        x.leave(15);
        due("none", x.of(0, 4), -1);
        x.moor(0, 0);
        due("the first", x.of(0, 4), 0);
    }

    private static void ofItsWear() {
        BayMoorings x = row(1);
        due("low", x.of(0, 5), 0);
        due("high", x.of(0, 6), 0);
        due("not parted", x.of(0, 7), 0);
        x.years(19);
        due("low", x.of(0, 5), 57);
        due("high", x.of(0, 6), 100);
        due("not parted", x.of(0, 7), 0);
        x.years(1);
        due("low", x.of(0, 5), 60);
        due("parted", x.of(0, 7), 1);
    }

    private static void ofBeyond() {
        BayMoorings x = new BayMoorings();
        due("there is none", x.of(0, 0), BEYOND);
        x.buoy(1, 1, 1, 10);
        due("no second", x.of(1, 0), BEYOND);
        due("the 13th", x.of(12, 0), BEYOND);
        for (int buoy : FAR) {
            due("buoy " + buoy, x.of(buoy, 0), BEYOND);
        }
        due("what 7", x.of(0, 7), 0);
        due("what 8", x.of(0, 8), BEYOND);
        due("what -1", x.of(0, -1), BEYOND);
        due("what far above", x.of(0, Integer.MAX_VALUE), BEYOND);
        due("what far below", x.of(0, Integer.MIN_VALUE), BEYOND);
    }

    // ---- promises 9 to 11

    private static void places() {
        says(9, "OUT of a BOAT at a BUOY at an HOUR.", BoundaryTests::outAtAnHour);
        says(9, "BEYOND.", BoundaryTests::outBeyond);
        says(10, "1 a BOAT FITS a BUOY, else 0.", BoundaryTests::fitsOrNot);
        says(10, "BEYOND.", BoundaryTests::fitsBeyond);
        says(11, "The first HOUR at which two BOATS at two BUOYS may TOUCH;", BoundaryTests::firstHour);
        says(11, "-1: at none.", BoundaryTests::touchAtNone);
        says(11, "BEYOND: there is no such BOAT, BUOY,", BoundaryTests::touchBeyond);
        says(11, "both are the same BOAT, or BUOY.", BoundaryTests::touchOfTheSame);
    }

    private static void outAtAnHour() {
        BayMoorings x = new BayMoorings();
        x.buoy(0, 0, 6, 10);
        addBoats(x, 1);
        x.tide(0, 2);
        x.tide(23, 4);
        due("hour 0", x.out(0, 0, 0), 16);
        due("hour 1", x.out(0, 0, 1), 18);
        due("hour 23", x.out(0, 0, 23), 10);
        x.moor(0, 0);
        due("whether it lies or not", x.out(0, 0, 0), 16);
    }

    private static void outBeyond() {
        BayMoorings x = row(1);
        due("no boat", x.out(0, 0, 0), BEYOND);
        addBoats(x, 1);
        due("no second boat", x.out(1, 0, 0), BEYOND);
        due("no second buoy", x.out(0, 1, 0), BEYOND);
        due("hour 24", x.out(0, 0, 24), BEYOND);
        due("hour -1", x.out(0, 0, -1), BEYOND);
        for (int far : FAR) {
            due("boat " + far, x.out(far, 0, 0), BEYOND);
            due("buoy " + far, x.out(0, far, 0), BEYOND);
        }
        due("hour far above", x.out(0, 0, Integer.MAX_VALUE), BEYOND);
        due("hour far below", x.out(0, 0, Integer.MIN_VALUE), BEYOND);
    }

    private static void fitsOrNot() {
        BayMoorings x = rowWithBoats(1);
        x.boat(0, 11, 0);
        x.boat(0, 10, 11);
        due("it fits where it lies", x.fits(0, 0), 1);
        due("too long", x.fits(1, 0), 0);
        due("too deep", x.fits(2, 0), 0);
        addBoats(x, 1);
        due("it fits, though another lies there", x.fits(3, 0), 1);
    }

    private static void fitsBeyond() {
        BayMoorings x = row(1);
        due("no boat", x.fits(0, 0), BEYOND);
        addBoats(x, 1);
        due("no second boat", x.fits(1, 0), BEYOND);
        due("no second buoy", x.fits(0, 1), BEYOND);
        for (int far : FAR) {
            due("boat " + far, x.fits(far, 0), BEYOND);
            due("buoy " + far, x.fits(0, far), BEYOND);
        }
    }

    /** OUTS of 60 at a TIDE of 0, of 50 at 30; the BUOYS are 59 apart. */
    private static BayMoorings nearAtLowWater() {
        BayMoorings x = new BayMoorings();
        x.buoy(0, 0, 0, 50);
        x.buoy(59, 0, 0, 50);
        addBoats(x, 2);
        x.winds(1);
        setAllTides(x, 30);
        return x;
    }

    private static void firstHour() {
        BayMoorings x = nearAtLowWater();
        x.tide(23, 0);
        due("the last", x.touch(0, 0, 1, 1), 23);
        x.tide(11, 0);
        due("the first of two", x.touch(0, 0, 1, 1), 11);
        due("the other way round", x.touch(1, 1, 0, 0), 11);
        x.tide(0, 0);
        due("the first of all", x.touch(0, 0, 1, 1), 0);
        x.tide(0, 30);
        x.tide(11, 30);
        due("the last again", x.touch(0, 0, 1, 1), 23);
    }

    private static void touchAtNone() {
        BayMoorings x = nearAtLowWater();
        due("at none", x.touch(0, 0, 1, 1), -1);
        x.moor(0, 0);
        x.moor(1, 1);
        due("where they lie", x.touch(0, 0, 1, 1), -1);
        due("where they don't lie", x.touch(0, 1, 1, 0), -1);
        due("no finding", x.found(1), 0);
    }

    private static void touchBeyond() {
        BayMoorings x = rowWithBoats(2);
        due("as told", x.touch(0, 0, 1, 1), -1);
        due("no such boat", x.touch(2, 0, 1, 1), BEYOND);
        due("no such buoy", x.touch(0, 2, 1, 1), BEYOND);
        due("no such other", x.touch(0, 0, 2, 1), BEYOND);
        due("no such buoy of the other", x.touch(0, 0, 1, 2), BEYOND);
        for (int far : FAR) {
            due("boat " + far, x.touch(far, 0, 1, 1), BEYOND);
            due("buoy " + far, x.touch(0, far, 1, 1), BEYOND);
            due("other " + far, x.touch(0, 0, far, 1), BEYOND);
            due("at " + far, x.touch(0, 0, 1, far), BEYOND);
        }
    }

    private static void touchOfTheSame() {
        BayMoorings x = rowWithBoats(2);
        due("the same boat", x.touch(1, 0, 1, 1), BEYOND);
        due("the same buoy", x.touch(0, 1, 1, 1), BEYOND);
        due("both the same", x.touch(0, 0, 0, 0), BEYOND);
        due("three findings", x.found(1), 3);
    }

    // ---- promises 12 to 14

    private static void lying() {
        says(12, "A BOAT comes to a free BUOY (and waits no more, if it did): 1.", BoundaryTests::moorAndWaitNoMore);
        says(12, "BEYOND: there is no such BOAT, BUOY.", BoundaryTests::moorBeyond);
        says(12, "STATE: it lies, or the BUOY has one.", BoundaryTests::moorState);
        says(12, "NONE: it may not lie there.", BoundaryTests::moorNone);
        says(13, "A BOAT lies nowhere: the BUOY where it lay.", BoundaryTests::leaveABuoy);
        says(13, "BEYOND.", BoundaryTests::leaveBeyond);
        says(13, "STATE: it lies nowhere.", BoundaryTests::leaveState);
        says(14, "THE MOST of BOATS as bits: what 0 how many,", BoundaryTests::mostHowMany);
        says(14, "1 + i: the BUOY of the i-th of them (i 0 .. 4, by numbers; -1: none).", BoundaryTests::mostOfTheIth);
        says(14, "BEYOND: bits of no BOATS,", BoundaryTests::mostOfNoBoats);
        says(14, "there are more than 5,", BoundaryTests::mostOfMoreThanFive);
        says(14, "or another what (also of one that isn't there).", BoundaryTests::mostOfAnotherWhat);
        says(14, "STATE: one lies.", BoundaryTests::mostState);
    }

    private static void moorAndWaitNoMore() {
        BayMoorings x = row(3);
        addBoats(x, 3);
        x.wait(2);
        x.wait(0);
        due("one that doesn't wait", x.moor(1, 0), 1);
        due("still two wait", x.count(3), 2);
        due("one that waits", x.moor(2, 2), 1);
        due("it waits no more", x.about(2, 4), -1);
        due("the other moves up", x.about(0, 4), 0);
        due("the last that waits", x.moor(0, 1), 1);
        due("none waits", x.count(3), 0);
    }

    private static void moorBeyond() {
        BayMoorings x = row(1);
        due("no boat", x.moor(0, 0), BEYOND);
        addBoats(x, 1);
        due("no second boat", x.moor(1, 0), BEYOND);
        due("no second buoy", x.moor(0, 1), BEYOND);
        for (int far : FAR) {
            due("boat " + far, x.moor(far, 0), BEYOND);
            due("buoy " + far, x.moor(0, far), BEYOND);
        }
        due("none lies", x.count(2), 0);
    }

    private static void moorState() {
        BayMoorings x = row(3);
        addBoats(x, 2);
        x.moor(0, 0);
        due("it lies there", x.moor(0, 0), STATE);
        due("it lies elsewhere", x.moor(0, 1), STATE);
        due("the buoy has one", x.moor(1, 0), STATE);
        due("three findings", x.found(3), 3);
        x.leave(0);
        due("it is free again", x.moor(1, 0), 1);
    }

    private static void moorNone() {
        BayMoorings x = row(1);
        x.buoy(19, 0, 10, 10);
        x.buoy(40, 0, 10, 10);
        x.winds(1);
        x.boat(0, 11, 0);
        x.boat(0, 10, 11);
        addBoats(x, 2);
        due("too long", x.moor(0, 0), NONE);
        due("too deep", x.moor(1, 0), NONE);
        due("as told", x.moor(2, 0), 1);
        due("19 off", x.moor(3, 1), NONE);
        due("40 off", x.moor(3, 2), 1);
        due("three findings", x.found(2), 3);
    }

    private static void leaveABuoy() {
        BayMoorings x = rowWithBoats(12);
        for (int n = 11; n >= 0; n--) {
            due("leave(" + n + ")", x.leave(n), n);
            due("it lies nowhere", x.about(n, 3), -1);
            due("its buoy is free", x.of(n, 4), -1);
            due("so many lie", x.count(2), n);
            due("it doesn't wait", x.about(n, 4), -1);
        }
    }

    private static void leaveBeyond() {
        BayMoorings x = new BayMoorings();
        due("no boat", x.leave(0), BEYOND);
        addBoats(x, 1);
        due("no second", x.leave(1), BEYOND);
        for (int far : FAR) {
            due("boat " + far, x.leave(far), BEYOND);
        }
    }

    private static void leaveState() {
        BayMoorings x = rowWithBoats(1);
        due("it lies", x.leave(0), 0);
        due("it left", x.leave(0), STATE);
        x.wait(0);
        due("it waits", x.leave(0), STATE);
        due("it still waits", x.about(0, 4), 0);
    }

    private static void mostHowMany() {
        BayMoorings x = row(4);
        addBoats(x, 16);
        due("none", x.most(0, 0), 0);
        due("the last", x.most(1 << 15, 0), 1);
        due("the first and the last", x.most(1 << 15 | 1, 0), 2);
        due("five of sixteen, four buoys", x.most(0b1001_0010_0000_0101, 0), 4);
        due("nothing changes", x.count(2), 0);
    }

    private static void mostOfTheIth() {
        BayMoorings x = row(4);
        addBoats(x, 16);
        int bits = 0b1001_0010_0000_0101;
        int[] want = {0, 1, 2, 3, -1};
        for (int i = 0; i <= 4; i++) {
            due("the " + i + "-th", x.most(bits, 1 + i), want[i]);
        }
        due("an answer of -1 is no finding", x.found(2), 0);
    }

    private static void mostOfNoBoats() {
        BayMoorings x = row(4);
        due("no boat", x.most(1, 0), BEYOND);
        addBoats(x, 2);
        due("both", x.most(3, 0), 2);
        due("a third", x.most(4, 0), BEYOND);
        due("one and a third", x.most(5, 0), BEYOND);
        due("bit 16", x.most(1 << 16, 0), BEYOND);
        due("bit 31", x.most(Integer.MIN_VALUE, 0), BEYOND);
        due("bit 31 and one", x.most(Integer.MIN_VALUE | 1, 0), BEYOND);
        due("all bits", x.most(-1, 0), BEYOND);
        addBoats(x, 14);
        due("bit 15", x.most(1 << 15, 0), 1);
        due("bit 16 of sixteen", x.most(1 << 16, 0), BEYOND);
        due("bit 31 of sixteen", x.most(Integer.MIN_VALUE, 0), BEYOND);
    }

    private static void mostOfMoreThanFive() {
        BayMoorings x = row(12);
        addBoats(x, 16);
        due("five", x.most(0b11111, 0), 5);
        due("six", x.most(0b111111, 0), BEYOND);
        due("the last five", x.most(0b11111 << 11, 0), 5);
        due("the last six", x.most(0b111111 << 10, 0), BEYOND);
        due("all", x.most(0xffff, 0), BEYOND);
    }

    private static void mostOfAnotherWhat() {
        BayMoorings x = row(6);
        addBoats(x, 6);
        due("the fifth of five", x.most(31, 5), 4);
        due("the sixth", x.most(31, 6), BEYOND);
        due("-1", x.most(31, -1), BEYOND);
        due("far above", x.most(31, Integer.MAX_VALUE), BEYOND);
        due("far below", x.most(31, Integer.MIN_VALUE), BEYOND);
        due("the second of two", x.most(3, 2), 1);
        due("the third of two", x.most(3, 3), BEYOND);
        due("the first of none", x.most(0, 1), BEYOND);
        due("how many of none", x.most(0, 0), 0);
    }

    private static void mostState() {
        BayMoorings x = row(3);
        addBoats(x, 2);
        x.moor(0, 0);
        due("the one that lies", x.most(1, 0), STATE);
        due("one of two lies", x.most(3, 0), STATE);
        due("the other", x.most(2, 0), 1);
        x.wait(1);
        due("one that waits doesn't lie", x.most(2, 1), 1);
    }

    // ---- promises 15 to 19

    private static void theList() {
        says(15, "A BOAT comes to the end of THE LIST: how many wait.", BoundaryTests::waitAtTheEnd);
        says(15, "BEYOND.", BoundaryTests::waitBeyond);
        says(15, "STATE: it lies, or waits.", BoundaryTests::waitState);
        says(15, "FULL.", BoundaryTests::waitFull);
        says(16, "A BOAT waits no more: its place was.", BoundaryTests::awayFromItsPlace);
        says(16, "BEYOND.", BoundaryTests::awayBeyond);
        says(16, "STATE: it doesn't wait.", BoundaryTests::awayState);
        says(17, "The BOAT to which a BUOY is OFFERED.", BoundaryTests::offered);
        says(17, "BEYOND.", BoundaryTests::offerBeyond);
        says(17, "STATE: it has a BOAT.", BoundaryTests::offerState);
        says(17, "NONE: there is none.", BoundaryTests::offerNone);
        says(18, "The OFFER of a BUOY is TAKEN (1), or REFUSED (0): the BOAT.", BoundaryTests::answers);
        says(18, "BEYOND: there is no such BUOY, or is isn't 0 or 1.", BoundaryTests::answerBeyond);
        says(18, "STATE, NONE: as of offer().", BoundaryTests::answerAsOffer);
        says(19, "Whether who refuses STAYS (1), or goes to the end (0): what it was.", BoundaryTests::staysWas);
        says(19, "BEYOND.", BoundaryTests::staysBeyond);
    }

    private static void waitAtTheEnd() {
        BayMoorings x = new BayMoorings();
        addBoats(x, 3);
        due("the first", x.wait(1), 1);
        due("the second", x.wait(0), 2);
        x.away(1);
        due("again, at the end", x.wait(1), 2);
        due("its place", x.about(1, 4), 1);
        due("count(3)", x.count(3), 2);
    }

    private static void waitBeyond() {
        BayMoorings x = new BayMoorings();
        due("no boat", x.wait(0), BEYOND);
        addBoats(x, 1);
        due("no second", x.wait(1), BEYOND);
        for (int far : FAR) {
            due("boat " + far, x.wait(far), BEYOND);
        }
        due("none waits", x.count(3), 0);
    }

    private static void waitState() {
        BayMoorings x = rowWithBoats(1);
        addBoats(x, 1);
        due("it lies", x.wait(0), STATE);
        x.wait(1);
        due("it waits", x.wait(1), STATE);
        due("one waits", x.count(3), 1);
        x.leave(0);
        due("it lies no more", x.wait(0), 2);
    }

    private static void waitFull() {
        BayMoorings x = row(1);
        addBoats(x, 12);
        for (int n = 0; n < 10; n++) {
            due("wait", x.wait(n), n + 1);
        }
        due("the 11th", x.wait(10), FULL);
        due("ten wait", x.count(3), 10);
        due("it doesn't", x.about(10, 4), -1);
        x.moor(9, 0);
        due("there is room", x.wait(10), 10);
        due("and no more", x.wait(11), FULL);
    }

    private static void awayFromItsPlace() {
        BayMoorings x = new BayMoorings();
        addBoats(x, 10);
        for (int n = 0; n < 10; n++) {
            x.wait(n);
        }
        due("the last", x.away(9), 9);
        due("the first", x.away(0), 0);
        due("one between, moved up", x.away(5), 4);
        due("those behind move up", x.about(8, 4), 6);
        due("those before don't", x.about(4, 4), 3);
        due("seven wait", x.count(3), 7);
    }

    private static void awayBeyond() {
        BayMoorings x = new BayMoorings();
        due("no boat", x.away(0), BEYOND);
        addBoats(x, 1);
        due("no second", x.away(1), BEYOND);
        for (int far : FAR) {
            due("boat " + far, x.away(far), BEYOND);
        }
    }

    private static void awayState() {
        BayMoorings x = rowWithBoats(1);
        addBoats(x, 1);
        due("it lies", x.away(0), STATE);
        due("it never came", x.away(1), STATE);
        x.wait(1);
        due("it waits", x.away(1), 0);
        due("it went", x.away(1), STATE);
    }

    private static void offered() {
        BayMoorings x = row(12);
        addBoats(x, 16);
        x.wait(15);
        x.wait(0);
        due("the first that came", x.offer(0), 15);
        due("the last buoy", x.offer(11), 15);
        due("an offer changes nothing", x.offer(0), 15);
        due("two wait", x.count(3), 2);
        x.away(15);
        due("the next", x.offer(11), 0);
    }

    private static void offerBeyond() {
        BayMoorings x = new BayMoorings();
        due("no buoy", x.offer(0), BEYOND);
        x.buoy(0, 0, 10, 10);
        due("no second", x.offer(1), BEYOND);
        for (int far : FAR) {
            due("buoy " + far, x.offer(far), BEYOND);
        }
    }

    private static void offerState() {
        BayMoorings x = rowWithBoats(1);
        addBoats(x, 1);
        x.wait(1);
        due("it has one", x.offer(0), STATE);
        x.leave(0);
        due("it is free", x.offer(0), 1);
    }

    private static void offerNone() {
        BayMoorings x = row(2);
        x.boat(0, 11, 0);
        addBoats(x, 2);
        due("none waits", x.offer(0), NONE);
        x.wait(0);
        due("none fits", x.offer(0), NONE);
        x.wait(1);
        x.answer(0, 0);
        due("the only one that fits refused it", x.offer(0), NONE);
        due("but not the other", x.offer(1), 1);
        x.buoy(85, 0, 10, 10);
        x.moor(2, 1);
        due("the only one that fits may touch", x.offer(2), NONE);
    }

    private static void answers() {
        BayMoorings x = row(2);
        addBoats(x, 2);
        x.wait(1);
        x.wait(0);
        due("refused", x.answer(0, 0), 1);
        due("taken by the next", x.answer(0, 1), 0);
        due("taken", x.answer(1, 1), 1);
        due("both lie", x.count(2), 2);
        due("none waits", x.count(3), 0);
    }

    private static void answerBeyond() {
        BayMoorings x = row(1);
        addBoats(x, 1);
        x.wait(0);
        due("no second buoy", x.answer(1, 1), BEYOND);
        for (int far : FAR) {
            due("buoy " + far, x.answer(far, 0), BEYOND);
        }
        due("is 2", x.answer(0, 2), BEYOND);
        due("is -1", x.answer(0, -1), BEYOND);
        due("is far above", x.answer(0, Integer.MAX_VALUE), BEYOND);
        due("is far below", x.answer(0, Integer.MIN_VALUE), BEYOND);
        due("both are beyond, one finding", x.answer(1, 2), BEYOND);
        due("found(1)", x.found(1), 1 + FAR.length + 5);
        due("nothing was refused", x.answer(0, 1), 0);
    }

    private static void answerAsOffer() {
        BayMoorings x = row(1);
        addBoats(x, 2);
        due("none waits, taken", x.answer(0, 1), NONE);
        due("none waits, refused", x.answer(0, 0), NONE);
        x.moor(0, 0);
        x.wait(1);
        due("it has one, taken", x.answer(0, 1), STATE);
        due("it has one, refused", x.answer(0, 0), STATE);
        x.leave(0);
        due("nothing was refused", x.offer(0), 1);
        x.answer(0, 0);
        due("it was refused, taken", x.answer(0, 1), NONE);
        due("it was refused, refused", x.answer(0, 0), NONE);
        due("found(2)", x.found(2), 4);
        due("found(3)", x.found(3), 2);
    }

    private static void staysWas() {
        BayMoorings x = row(1);
        addBoats(x, 3);
        for (int n = 0; n < 3; n++) {
            x.wait(n);
        }
        due("at first", x.stays(1), 1);
        x.answer(0, 0);
        due("it stays", x.about(0, 4), 0);
        due("to the end from now on", x.stays(0), 1);
        x.answer(0, 0);
        due("it goes", x.about(1, 4), 2);
        due("again", x.stays(0), 0);
        due("stays from now on", x.stays(1), 0);
        x.answer(0, 0);
        due("it stays", x.about(2, 4), 1);
    }

    private static void staysBeyond() {
        BayMoorings x = new BayMoorings();
        due("2", x.stays(2), BEYOND);
        due("-1", x.stays(-1), BEYOND);
        due("far above", x.stays(Integer.MAX_VALUE), BEYOND);
        due("far below", x.stays(Integer.MIN_VALUE), BEYOND);
        due("as it was", x.stays(0), 1);
        due("2 again", x.stays(2), BEYOND);
        due("as it was", x.stays(0), 0);
    }

    // ---- promises 20 to 23

    private static void swaps() {
        says(20, "A BOAT tells one more BUOY that it would rather have: how many.", BoundaryTests::ratherHowMany);
        says(20, "BEYOND: there is no such BOAT, BUOY.", BoundaryTests::ratherBeyond);
        says(20, "STATE: it is told.", BoundaryTests::ratherState);
        says(20, "FULL.", BoundaryTests::ratherFull);
        says(21, "A BOAT tells none any more: how many it told.", BoundaryTests::contentHowMany);
        says(21, "BEYOND.", BoundaryTests::contentBeyond);
        says(22, "The BUOY that a BOAT gets by RINGS.", BoundaryTests::ringGets);
        says(22, "BEYOND.", BoundaryTests::ringBeyond);
        says(22, "STATE: it lies nowhere.", BoundaryTests::ringState);
        says(23, "RINGS are done: how many BOATS lie elsewhere then;", BoundaryTests::swapMoves);
        says(23, "nobody tells anything any more.", BoundaryTests::swapForgets);
    }

    private static void ratherHowMany() {
        BayMoorings x = rowWithBoats(12);
        due("the first", x.rather(0, 11), 1);
        due("its own", x.rather(0, 0), 2);
        due("another boat's", x.rather(11, 11), 1);
        due("the third", x.rather(0, 5), 3);
        due("the fourth", x.rather(0, 4), 4);
        addBoats(x, 1);
        due("of one that lies nowhere, too", x.rather(12, 3), 1);
    }

    private static void ratherBeyond() {
        BayMoorings x = row(1);
        due("no boat", x.rather(0, 0), BEYOND);
        addBoats(x, 1);
        due("no second boat", x.rather(1, 0), BEYOND);
        due("no second buoy", x.rather(0, 1), BEYOND);
        for (int far : FAR) {
            due("boat " + far, x.rather(far, 0), BEYOND);
            due("buoy " + far, x.rather(0, far), BEYOND);
        }
        due("it told none", x.content(0), 0);
    }

    private static void ratherState() {
        BayMoorings x = rowWithBoats(5);
        x.rather(0, 1);
        due("it is told", x.rather(0, 1), STATE);
        due("another boat hasn't told it", x.rather(2, 1), 1);
        x.rather(0, 2);
        due("the first is told still", x.rather(0, 1), STATE);
        due("the last is told", x.rather(0, 2), STATE);
        x.content(0);
        due("no more", x.rather(0, 2), 1);
        due("no more", x.rather(0, 1), 2);
    }

    private static void ratherFull() {
        BayMoorings x = rowWithBoats(6);
        for (int b = 1; b <= 4; b++) {
            due("rather", x.rather(0, b), b);
        }
        due("the fifth", x.rather(0, 5), FULL);
        due("its own", x.rather(0, 0), FULL);
        due("four are told", x.content(0), 4);
        due("there is room", x.rather(0, 5), 1);
    }

    private static void contentHowMany() {
        BayMoorings x = rowWithBoats(5);
        for (int told = 0; told <= 4; told++) {
            for (int b = 0; b < told; b++) {
                x.rather(0, b);
            }
            x.rather(1, 2);
            due("content(0)", x.content(0), told);
            due("content(0) again", x.content(0), 0);
            due("the other's row stays", x.content(1), 1);
        }
    }

    private static void contentBeyond() {
        BayMoorings x = new BayMoorings();
        due("no boat", x.content(0), BEYOND);
        addBoats(x, 1);
        due("no second", x.content(1), BEYOND);
        for (int far : FAR) {
            due("boat " + far, x.content(far), BEYOND);
        }
        due("none told", x.content(0), 0);
    }

    private static void ringGets() {
        BayMoorings x = rowWithBoats(3);
        due("nobody tells", x.ring(2), 2);
        x.rather(0, 2);
        due("one tells alone", x.ring(0), 0);
        x.rather(2, 0);
        due("both tell", x.ring(0), 2);
        due("both tell", x.ring(2), 0);
        due("the third has its own", x.ring(1), 1);
        due("nothing changes", x.about(0, 3), 0);
    }

    private static void ringBeyond() {
        BayMoorings x = row(1);
        due("no boat", x.ring(0), BEYOND);
        addBoats(x, 1);
        x.moor(0, 0);
        due("it lies", x.ring(0), 0);
        due("no second", x.ring(1), BEYOND);
        for (int far : FAR) {
            due("boat " + far, x.ring(far), BEYOND);
        }
    }

    private static void ringState() {
        BayMoorings x = rowWithBoats(2);
        x.rather(0, 1);
        x.rather(1, 0);
        x.leave(0);
        due("it lies nowhere", x.ring(0), STATE);
        due("the other points at its own", x.ring(1), 1);
        x.moor(0, 0);
        due("it lies again", x.ring(0), 1);
    }

    private static void swapMoves() {
        BayMoorings x = rowWithBoats(12);
        due("nobody tells", x.swap(), 0);
        x.rather(3, 3);
        due("its own", x.swap(), 0);
        x.rather(0, 1);
        due("one tells alone", x.swap(), 0);
        x.rather(0, 1);
        x.rather(1, 0);
        x.leave(11);
        due("two of eleven", x.swap(), 2);
        due("about(0, 3)", x.about(0, 3), 1);
        due("about(1, 3)", x.about(1, 3), 0);
        due("of(0, 4)", x.of(0, 4), 1);
        due("of(1, 4)", x.of(1, 4), 0);
        due("of(11, 4)", x.of(11, 4), -1);
        due("about(11, 3)", x.about(11, 3), -1);
        x.moor(11, 11);
        for (int n = 0; n < 12; n++) {
            x.rather(n, x.about((n + 1) % 12, 3));
        }
        due("all of them", x.swap(), 12);
        due("twelve lie still", x.count(2), 12);
    }

    private static void swapForgets() {
        BayMoorings x = rowWithBoats(3);
        addBoats(x, 1);
        x.rather(0, 1);
        x.rather(0, 2);
        x.rather(1, 0);
        x.rather(2, 0);
        x.rather(3, 0);
        due("swap()", x.swap(), 2);
        for (int n = 0; n < 4; n++) {
            due("boat " + n + " tells none", x.content(n), 0);
        }
        due("once more", x.swap(), 0);
    }

    // ---- promises 24 to 27

    private static void chains() {
        says(24, "n YEARS go by (1 .. 30):", BoundaryTests::yearsGoBy);
        says(24, "how many CHAINS are PARTED then.", BoundaryTests::yearsPart);
        says(24, "BEYOND.", BoundaryTests::yearsBeyond);
        says(25, "A LOOK at a BUOY's CHAIN: it is v (0 .. 100) or more (1), or less (0): HIGH less LOW then.",
            BoundaryTests::lookAnswers);
        says(25, "BEYOND.", BoundaryTests::lookBeyond);
        says(25, "NONE: that can't be (more: v above HIGH;", BoundaryTests::lookAboveHigh);
        says(25, "less: v is LOW or less).", BoundaryTests::lookBelowLow);
        says(26, "THE NEXT LOOK.", BoundaryTests::nextLook);
        says(26, "NONE: there are no BUOYS.", BoundaryTests::nextNone);
        says(27, "A new CHAIN at a BUOY: what HIGH was.", BoundaryTests::renewWas);
        says(27, "BEYOND.", BoundaryTests::renewBeyond);
    }

    private static void yearsGoBy() {
        BayMoorings x = row(1);
        x.years(1);
        due("low", x.of(0, 5), 3);
        x.years(30);
        due("low", x.of(0, 5), 93);
        BayMoorings y = row(1);
        for (int year = 0; year < 7; year++) {
            y.years(1);
        }
        BayMoorings z = row(1);
        z.years(7);
        due("one by one or at once: low", y.of(0, 5), z.of(0, 5));
        due("one by one or at once: high", y.of(0, 6), z.of(0, 6));
    }

    private static void yearsPart() {
        BayMoorings x = row(3);
        due("19 years", x.years(19), 0);
        x.renew(1);
        due("20 years", x.years(1), 2);
        due("counted again", x.years(1), 2);
        due("38 years, of the new one 19", x.years(17), 2);
        due("39 years, of the new one 20", x.years(1), 3);
    }

    private static void yearsBeyond() {
        BayMoorings x = row(1);
        due("0", x.years(0), BEYOND);
        due("31", x.years(31), BEYOND);
        due("-1", x.years(-1), BEYOND);
        due("far above", x.years(Integer.MAX_VALUE), BEYOND);
        due("far below", x.years(Integer.MIN_VALUE), BEYOND);
        due("none went by", x.of(0, 6), 0);
    }

    private static void lookAnswers() {
        BayMoorings x = row(1);
        x.years(9);
        due("0 or more", x.look(0, 0, 1), 73);
        due("100 or more", x.look(0, 100, 1), 0);
        BayMoorings y = row(1);
        y.years(9);
        due("less than 100", y.look(0, 100, 0), 72);
        due("less than 28", y.look(0, 28, 0), 0);
    }

    private static void lookBeyond() {
        BayMoorings x = row(1);
        x.years(9);
        due("no second", x.look(1, 50, 1), BEYOND);
        for (int far : FAR) {
            due("buoy " + far, x.look(far, 50, 1), BEYOND);
        }
        due("v -1", x.look(0, -1, 1), BEYOND);
        due("v 101", x.look(0, 101, 0), BEYOND);
        due("v far above", x.look(0, Integer.MAX_VALUE, 0), BEYOND);
        due("v far below", x.look(0, Integer.MIN_VALUE, 1), BEYOND);
        due("more 2", x.look(0, 50, 2), BEYOND);
        due("more -1", x.look(0, 50, -1), BEYOND);
        due("low is as it was", x.of(0, 5), 27);
        due("high is as it was", x.of(0, 6), 100);
    }

    private static void lookAboveHigh() {
        BayMoorings x = row(1);
        due("1 or more of a new one", x.look(0, 1, 1), NONE);
        due("0 or more of a new one", x.look(0, 0, 1), 0);
        x.years(2);
        due("25 or more", x.look(0, 25, 1), NONE);
        due("100 or more", x.look(0, 100, 1), NONE);
        due("24 or more", x.look(0, 24, 1), 0);
        due("low follows", x.of(0, 5), 24);
    }

    private static void lookBelowLow() {
        BayMoorings x = row(1);
        due("less than 0 of a new one", x.look(0, 0, 0), NONE);
        due("less than 1 of a new one", x.look(0, 1, 0), 0);
        x.years(2);
        due("less than 6", x.look(0, 6, 0), NONE);
        due("less than 5", x.look(0, 5, 0), NONE);
        due("less than 0", x.look(0, 0, 0), NONE);
        due("less than 7", x.look(0, 7, 0), 0);
        due("high follows", x.of(0, 6), 6);
    }

    private static void nextLook() {
        BayMoorings x = row(12);
        due("all alike", x.next(), 0);
        x.years(1);
        for (int b = 0; b < 11; b++) {
            x.renew(b);
        }
        due("the last", x.next(), 11);
        due("nothing changes", x.next(), 11);
    }

    private static void nextNone() {
        BayMoorings x = new BayMoorings();
        due("there are none", x.next(), NONE);
        x.boat(0, 10, 0);
        due("a boat is no buoy", x.next(), NONE);
        x.buoy(0, 0, 0, 10);
        due("there is one", x.next(), 0);
        due("found(2)", x.found(2), 2);
    }

    private static void renewWas() {
        BayMoorings x = row(2);
        due("a new one", x.renew(0), 0);
        x.years(30);
        due("an old one", x.renew(0), 100);
        due("renewed", x.renew(0), 0);
        x.look(1, 95, 0);
        due("one that was looked at", x.renew(1), 94);
        due("no chain is parted", x.count(5), 0);
    }

    private static void renewBeyond() {
        BayMoorings x = new BayMoorings();
        due("no buoy", x.renew(0), BEYOND);
        x.buoy(0, 0, 0, 10);
        due("no second", x.renew(1), BEYOND);
        for (int far : FAR) {
            due("buoy " + far, x.renew(far), BEYOND);
        }
    }

    // ---- promises 28 and 29

    private static void storms() {
        says(28, "A STORM: how many BOATS flee; to where is told by fled().", BoundaryTests::stormHowMany);
        says(28, "BEYOND: s isn't 1 .. 100.", BoundaryTests::stormBeyond);
        says(28, "(Nothing changes.)", BoundaryTests::stormChangesNothing);
        says(29, "Where a BOAT would flee to in a STORM: a BUOY;", BoundaryTests::fledToABuoy);
        says(29, "its own if it HOLDS;", BoundaryTests::fledNotAtAll);
        says(29, "-1: nowhere.", BoundaryTests::fledToNowhere);
        says(29, "BEYOND: there is no such BOAT, or s.", BoundaryTests::fledBeyond);
        says(29, "STATE: it lies nowhere.", BoundaryTests::fledState);
    }

    private static void stormHowMany() {
        BayMoorings x = rowWithBoats(12);
        addBoats(x, 1);
        due("99", x.storm(99), 0);
        due("100: all that lie", x.storm(100), 12);
        x.years(1);
        x.renew(3);
        due("all but one", x.storm(99), 11);
        due("it holds", x.fled(3, 99), 3);
        x.leave(3);
        due("those that lie don't hold", x.storm(99), 11);
        due("the first has fled there", x.fled(0, 99), 3);
    }

    private static void stormBeyond() {
        BayMoorings x = rowWithBoats(1);
        due("0", x.storm(0), BEYOND);
        due("101", x.storm(101), BEYOND);
        due("-1", x.storm(-1), BEYOND);
        due("far above", x.storm(Integer.MAX_VALUE), BEYOND);
        due("far below", x.storm(Integer.MIN_VALUE), BEYOND);
        due("1", x.storm(1), 0);
        due("100", x.storm(100), 1);
    }

    private static void stormChangesNothing() {
        BayMoorings x = row(3);
        addBoats(x, 3);
        x.moor(0, 0);
        x.moor(1, 1);
        x.wait(2);
        x.years(1);
        x.renew(2);
        due("both flee", x.storm(90), 2);
        due("the first lies where it lay", x.about(0, 3), 0);
        due("so does the second", x.about(1, 3), 1);
        due("the refuge is free", x.of(2, 4), -1);
        due("high", x.of(0, 6), 12);
        due("the third waits", x.about(2, 4), 0);
        due("both flee again", x.storm(90), 2);
    }

    private static void fledToABuoy() {
        BayMoorings x = row(4);
        addBoats(x, 2);
        x.moor(0, 1);
        x.moor(1, 2);
        x.years(1);
        x.renew(0);
        x.renew(3);
        due("the first to the least", x.fled(0, 90), 0);
        due("the second to the next", x.fled(1, 90), 3);
        due("nothing changes", x.about(0, 3), 1);
    }

    private static void fledNotAtAll() {
        BayMoorings x = row(3);
        addBoats(x, 1);
        x.moor(0, 2);
        due("it holds, though 0 is free", x.fled(0, 99), 2);
        x.years(1);
        x.renew(0);
        due("12 and 87 and 1", x.fled(0, 87), 2);
        due("12 and 88 and 1", x.fled(0, 88), 0);
    }

    private static void fledToNowhere() {
        BayMoorings x = row(3);
        addBoats(x, 1);
        x.moor(0, 2);
        due("none holds", x.fled(0, 100), -1);
        due("it still lies", x.about(0, 3), 2);
        due("no finding", x.found(2), 0);
    }

    private static void fledBeyond() {
        BayMoorings x = row(1);
        due("no boat", x.fled(0, 50), BEYOND);
        addBoats(x, 1);
        x.moor(0, 0);
        due("no second", x.fled(1, 50), BEYOND);
        for (int far : FAR) {
            due("boat " + far, x.fled(far, 50), BEYOND);
        }
        due("s 0", x.fled(0, 0), BEYOND);
        due("s 101", x.fled(0, 101), BEYOND);
        due("s far above", x.fled(0, Integer.MAX_VALUE), BEYOND);
        due("s far below", x.fled(0, Integer.MIN_VALUE), BEYOND);
        due("s 1", x.fled(0, 1), 0);
        due("s 99", x.fled(0, 99), 0);
    }

    private static void fledState() {
        BayMoorings x = rowWithBoats(1);
        x.leave(0);
        due("it lies nowhere", x.fled(0, 50), STATE);
        x.wait(0);
        due("it waits", x.fled(0, 50), STATE);
        x.answer(0, 1);
        due("it lies", x.fled(0, 50), 0);
    }

    // ---- promises 30 and 31

    private static void dues() {
        says(30, "RATE: what it was.", BoundaryTests::rateWas);
        says(30, "BEYOND.", BoundaryTests::rateBeyond);
        says(31, "DUES of all BOATS that lie.", BoundaryTests::duesOfAll);
    }

    private static void rateWas() {
        BayMoorings x = new BayMoorings();
        due("at first", x.rate(0), 3);
        due("the least", x.rate(100), 0);
        due("the greatest", x.rate(100), 100);
        due("again", x.rate(1), 100);
    }

    private static void rateBeyond() {
        BayMoorings x = new BayMoorings();
        due("-1", x.rate(-1), BEYOND);
        due("101", x.rate(101), BEYOND);
        due("far above", x.rate(Integer.MAX_VALUE), BEYOND);
        due("far below", x.rate(Integer.MIN_VALUE), BEYOND);
        due("as it was", x.rate(3), 3);
    }

    private static void duesOfAll() {
        BayMoorings x = rowWithBoats(12);
        due("twelve", x.dues(), 36);
        x.leave(0);
        x.leave(11);
        due("ten", x.dues(), 30);
        x.boat(1, 10, 0);
        x.moor(12, 11);
        due("and a twin", x.dues(), 34);
        x.rate(0);
        due("by no rate", x.dues(), 0);
        x.rate(100);
        due("by the greatest", x.dues(), 1150);
        BayMoorings y = row(2);
        y.boat(0, 10, 0);
        y.boat(0, 10, 0);
        y.moor(0, 0);
        y.moor(1, 1);
        y.rate(1);
        due("each is rounded by itself", y.dues(), 2);
    }

    // ---- promises 32 to 35

    private static void whatIsTold() {
        says(32, "One more number waits: how many.", BoundaryTests::tellHowMany);
        says(32, "FULL: 24 wait.", BoundaryTests::tellFull);
        says(33, "The numbers that wait (none do then)", BoundaryTests::checkEmptiesTheNumbers);
        says(33, "are BUOYS that BOATS 0, 1, .. get by RINGS", BoundaryTests::checkByRings);
        says(33, "(-1 of those that lie nowhere):", BoundaryTests::checkOfThoseNowhere);
        says(33, "0 if they are;", BoundaryTests::checkAsTheyAre);
        says(33, "1 and i for the first (from 0 on) that isn't,", BoundaryTests::checkTheFirstThatIsNot);
        says(33, "or is of no BOAT.", BoundaryTests::checkOfNoBoat);
        says(34, "0 BUOYS, 1 BOATS, 2 that lie, 3 that wait, 4 numbers that wait, 5 CHAINS that are PARTED, 6 WINDS.",
            BoundaryTests::counts);
        says(34, "BEYOND: another what.", BoundaryTests::countBeyond);
        says(35, "How many acts have answered a finding LOW - k (k 1 .. 5);", BoundaryTests::foundHowMany);
        says(35, "BEYOND: another k (counted, too).", BoundaryTests::foundBeyond);
    }

    private static void tellHowMany() {
        BayMoorings x = new BayMoorings();
        int[] any = {0, -1, Integer.MAX_VALUE, Integer.MIN_VALUE, -1000001};
        for (int i = 0; i < any.length; i++) {
            due("tell(" + any[i] + ")", x.tell(any[i]), i + 1);
        }
        due("count(4)", x.count(4), 5);
        x.check();
        due("from the beginning", x.tell(0), 1);
    }

    private static void tellFull() {
        BayMoorings x = new BayMoorings();
        for (int i = 1; i <= 24; i++) {
            due("tell", x.tell(7), i);
        }
        due("the 25th", x.tell(7), FULL);
        due("24 wait", x.count(4), 24);
        due("check()", x.check(), 1);
        due("there is room", x.tell(7), 1);
    }

    private static int told(BayMoorings x, int... numbers) {
        for (int v : numbers) {
            x.tell(v);
        }
        return x.check();
    }

    private static void checkEmptiesTheNumbers() {
        BayMoorings x = rowWithBoats(2);
        due("right ones", told(x, 0, 1), 0);
        due("none waits", x.count(4), 0);
        due("a wrong one", told(x, 1, 1), 1);
        due("none waits", x.count(4), 0);
        due("no numbers", x.check(), 0);
        due("older ones are gone", told(x, 0), 0);
    }

    private static void checkByRings() {
        BayMoorings x = rowWithBoats(3);
        x.rather(0, 2);
        x.rather(2, 0);
        due("by rings", told(x, 2, 1, 0), 0);
        due("as they lie", told(x, 0, 1, 2), 1);
        due("nothing is swapped", x.about(0, 3), 0);
        due("it still tells", x.content(0), 1);
        due("then as they lie", told(x, 0, 1, 2), 0);
    }

    private static void checkOfThoseNowhere() {
        BayMoorings x = rowWithBoats(3);
        x.leave(1);
        due("-1", told(x, 0, -1, 2), 0);
        due("where it lay", told(x, 0, 1, 2), 2);
        due("-2", told(x, 0, -2, 2), 2);
        due("-1 of one that lies", told(x, -1, -1, 2), 1);
    }

    private static void checkAsTheyAre() {
        BayMoorings x = rowWithBoats(12);
        addBoats(x, 4);
        for (int n = 0; n < 16; n++) {
            x.tell(n < 12 ? n : -1);
        }
        due("all sixteen", x.check(), 0);
        due("only the first", told(x, 0), 0);
        due("none", x.check(), 0);
        due("no finding", x.found(1), 0);
    }

    private static void checkTheFirstThatIsNot() {
        BayMoorings x = rowWithBoats(12);
        addBoats(x, 4);
        for (int bad = 0; bad < 16; bad++) {
            for (int n = 0; n < 16; n++) {
                x.tell(n == bad ? 99 : n < 12 ? n : -1);
            }
            due("number " + bad + " isn't", x.check(), 1 + bad);
        }
        due("the first of two", told(x, 0, 0, 0), 2);
    }

    private static void checkOfNoBoat() {
        BayMoorings x = new BayMoorings();
        due("no boats", told(x, -1), 1);
        addBoats(x, 2);
        due("one more than boats", told(x, -1, -1, -1), 3);
        due("two more than boats", told(x, -1, -1, 0, 0), 3);
        due("one that isn't comes before", told(x, -1, 0, 0), 2);
        addBoats(x, 14);
        for (int i = 0; i < 24; i++) {
            x.tell(-1);
        }
        due("24 numbers, 16 boats", x.check(), 17);
    }

    private static void counts() {
        BayMoorings x = row(12);
        addBoats(x, 16);
        for (int n = 0; n < 5; n++) {
            x.moor(n, n);
        }
        for (int n = 5; n < 9; n++) {
            x.wait(n);
        }
        for (int i = 0; i < 24; i++) {
            x.tell(i);
        }
        x.years(20);
        x.renew(0);
        x.winds(0b10110);
        int[] want = {12, 16, 5, 4, 24, 11, 3};
        for (int what = 0; what <= 6; what++) {
            due("count(" + what + ")", x.count(what), want[what]);
        }
    }

    private static void countBeyond() {
        BayMoorings x = new BayMoorings();
        due("6", x.count(6), 8);
        due("7", x.count(7), BEYOND);
        due("-1", x.count(-1), BEYOND);
        due("far above", x.count(Integer.MAX_VALUE), BEYOND);
        due("far below", x.count(Integer.MIN_VALUE), BEYOND);
        due("found(1)", x.found(1), 4);
    }

    private static void foundHowMany() {
        BayMoorings x = row(12);
        addBoats(x, 1);
        x.winds(0);
        x.offer(0);
        x.offer(0);
        for (int i = 0; i < 3; i++) {
            x.leave(0);
        }
        for (int i = 0; i < 4; i++) {
            x.buoy(0, 0, 0, 10);
        }
        for (int i = 0; i < 5; i++) {
            x.as(0, 1);
        }
        x.most(1, 0);
        x.about(0, 3);
        for (int k = 1; k <= 5; k++) {
            due("found(" + k + ")", x.found(k), k);
            due("asking changes nothing", x.found(k), k);
        }
    }

    private static void foundBeyond() {
        BayMoorings x = new BayMoorings();
        due("found(0)", x.found(0), BEYOND);
        due("counted", x.found(1), 1);
        due("found(6)", x.found(6), BEYOND);
        due("found(-1)", x.found(-1), BEYOND);
        due("found(far above)", x.found(Integer.MAX_VALUE), BEYOND);
        due("found(far below)", x.found(Integer.MIN_VALUE), BEYOND);
        due("counted", x.found(1), 5);
        for (int k = 2; k <= 5; k++) {
            due("found(" + k + ")", x.found(k), 0);
        }
    }

    // ---- "An object is used for at most 512 calls after it has been made"

    private static void lastCall() {
        topic("promise 35, the 512th call");
        BayMoorings x = new BayMoorings();
        for (int call = 1; call < 512; call++) {
            x.winds(0);
        }
        due("found(1)", x.found(1), 511);
    }
}
