import java.util.Arrays;

/**
 * Moorings in a bay: which boat may lie at which buoy, who is offered what comes free, who swaps,
 * whose chain wears, who flees a storm, and what each owes. The words in capitals are those of the
 * document, whose promises the public methods keep in its order.
 */
public final class BayMoorings {
    private static final int LOW = -1000000;
    private static final int BEYOND = 1;
    private static final int NONE = 2;
    private static final int STATE = 3;
    private static final int FULL = 4;
    private static final int KIND = 5;

    private static final int MOST_BUOYS = 12;
    private static final int MOST_BOATS = 16;
    private static final int MOST_WAITING = 10;
    private static final int MOST_WISHES = 4;
    private static final int MOST_ASKED = 5;
    private static final int MOST_NUMBERS = 24;

    private static final int NOWHERE = -1;
    private static final int NOBODY = -1;
    private static final int NEVER = -1;

    private static final int KIND_BOAT = 0;
    private static final int KIND_TWIN = 1;
    private static final int KIND_DRY = 2;

    private static final int HOURS = 24;
    private static final int ALL_WINDS = 255;
    private static final int LAST_WIND = 7;
    private static final int[] WIND_X = {0, 1, 1, 1, 0, -1, -1, -1};
    private static final int[] WIND_Y = {-1, -1, 0, 1, 1, 1, 0, -1};
    private static final int NEAR = 20;

    private static final int WORN_OUT = 100;
    private static final int PARTED_FROM = 60;
    private static final int LONG_BOAT = 150;

    private final Bay bay = new Bay();
    private final WaitingList waiting = new WaitingList(bay);
    private final Search search = new Search(bay);
    private final Rings rings = new Rings(bay);
    private final Flight flight = new Flight(bay);
    private final int[] findings = new int[KIND + 1];
    private final int[] numbers = new int[MOST_NUMBERS];
    private int numberCount = 0;
    private int rateNow = 3;
    private boolean refuserStays = true;

    public BayMoorings() {
    }

    // ---- the bay

    public int buoy(int x, int y, int depth, int chain) {
        boolean placed = within(x, 0, 999) && within(y, 0, 999);
        if (!placed || !within(depth, 0, 300) || !within(chain, 10, 400)) {
            return finding(BEYOND);
        }
        if (bay.buoyCount >= MOST_BUOYS) {
            return finding(FULL);
        }
        return bay.addBuoy(x, y, depth, chain);
    }

    public int boat(int kind, int length, int draught) {
        if (!isKind(kind) || !within(length, 10, 300) || !within(draught, 0, 100)) {
            return finding(BEYOND);
        }
        if (bay.boatCount >= MOST_BOATS) {
            return finding(FULL);
        }
        return bay.addBoat(kind, length, draught);
    }

    public int as(int boat, int kind) {
        Boat it = bay.boatAt(boat);
        if (it == null || !isKind(kind)) {
            return finding(BEYOND);
        }
        if (!it.isOf(kind)) {
            return finding(KIND);
        }
        return it.fee(rateNow);
    }

    public int tide(int hour, int v) {
        if (!isHour(hour) || !within(v, 0, 200)) {
            return finding(BEYOND);
        }
        int before = bay.tides[hour];
        bay.setTide(hour, v);
        return before;
    }

    public int winds(int bits) {
        if (!within(bits, 1, ALL_WINDS)) {
            return finding(BEYOND);
        }
        int before = bay.windBits;
        bay.windBits = bits;
        return before;
    }

    public int about(int boat, int what) {
        Boat it = bay.boatAt(boat);
        if (it == null) {
            return finding(BEYOND);
        }
        switch (what) {
            case 0:
                return it.kindNumber();
            case 1:
                return it.length;
            case 2:
                return it.draught;
            case 3:
                return bay.berths.buoyOf(boat);
            case 4:
                return waiting.placeOf(boat);
            case 5:
                return bay.berths.buoyOf(boat) == NOWHERE ? 0 : it.fee(rateNow);
            default:
                return finding(BEYOND);
        }
    }

    public int of(int buoy, int what) {
        Buoy it = bay.buoyAt(buoy);
        if (it == null) {
            return finding(BEYOND);
        }
        switch (what) {
            case 0:
                return it.x;
            case 1:
                return it.y;
            case 2:
                return it.depth;
            case 3:
                return it.chain;
            case 4:
                return bay.berths.boatOf(buoy);
            case 5:
                return it.low;
            case 6:
                return it.high;
            case 7:
                return it.isParted() ? 1 : 0;
            default:
                return finding(BEYOND);
        }
    }

    public int out(int boat, int buoy, int hour) {
        Boat it = bay.boatAt(boat);
        Buoy where = bay.buoyAt(buoy);
        if (it == null || where == null || !isHour(hour)) {
            return finding(BEYOND);
        }
        return where.slackAt(hour) + it.reach();
    }

    public int fits(int boat, int buoy) {
        Boat it = bay.boatAt(boat);
        Buoy where = bay.buoyAt(buoy);
        if (it == null || where == null) {
            return finding(BEYOND);
        }
        return bay.suits(it, where) ? 1 : 0;
    }

    public int touch(int boat, int buoy, int other, int at) {
        Boat one = bay.boatAt(boat);
        Buoy here = bay.buoyAt(buoy);
        Boat two = bay.boatAt(other);
        Buoy there = bay.buoyAt(at);
        if (one == null || here == null || two == null || there == null) {
            return finding(BEYOND);
        }
        if (boat == other || buoy == at) {
            return finding(BEYOND);
        }
        return bay.firstTouch(one, here, two, there);
    }

    // ---- lying

    public int moor(int boat, int buoy) {
        Boat it = bay.boatAt(boat);
        Buoy where = bay.buoyAt(buoy);
        if (it == null || where == null) {
            return finding(BEYOND);
        }
        if (bay.berths.buoyOf(boat) != NOWHERE || bay.berths.boatOf(buoy) != NOBODY) {
            return finding(STATE);
        }
        if (!bay.mayLie(it, where, bay.berths)) {
            return finding(NONE);
        }
        bay.berths.put(boat, buoy);
        waiting.drop(waiting.placeOf(boat));
        return 1;
    }

    public int leave(int boat) {
        if (bay.boatAt(boat) == null) {
            return finding(BEYOND);
        }
        int before = bay.berths.buoyOf(boat);
        if (before == NOWHERE) {
            return finding(STATE);
        }
        bay.berths.lift(boat);
        return before;
    }

    public int most(int boats, int what) {
        int asked = Integer.bitCount(boats);
        boolean known = boats >>> bay.boatCount == 0;
        if (!known || asked > MOST_ASKED || !within(what, 0, asked)) {
            return finding(BEYOND);
        }
        if (bay.anyLies(boats)) {
            return finding(STATE);
        }
        search.run(boats);
        return what == 0 ? search.bestCount : search.buoyFor(what - 1);
    }

    // ---- the list

    public int wait(int boat) {
        Boat it = bay.boatAt(boat);
        if (it == null) {
            return finding(BEYOND);
        }
        if (bay.berths.buoyOf(boat) != NOWHERE || waiting.placeOf(boat) >= 0) {
            return finding(STATE);
        }
        if (waiting.size >= MOST_WAITING) {
            return finding(FULL);
        }
        it.refused = 0;
        waiting.append(boat);
        return waiting.size;
    }

    public int away(int boat) {
        if (bay.boatAt(boat) == null) {
            return finding(BEYOND);
        }
        int place = waiting.placeOf(boat);
        if (place < 0) {
            return finding(STATE);
        }
        waiting.drop(place);
        return place;
    }

    public int offer(int buoy) {
        return offeredBoat(buoy);
    }

    public int answer(int buoy, int is) {
        if (!isFlag(is)) {
            return finding(BEYOND);
        }
        int number = offeredBoat(buoy);
        Boat it = bay.boatAt(number);
        if (it == null) {
            return number;
        }
        if (is == 1) {
            waiting.drop(waiting.placeOf(number));
            bay.berths.put(number, buoy);
        } else {
            it.refused |= 1 << buoy;
            if (!refuserStays) {
                waiting.drop(waiting.placeOf(number));
                waiting.append(number);
            }
        }
        return number;
    }

    public int stays(int is) {
        if (!isFlag(is)) {
            return finding(BEYOND);
        }
        int before = refuserStays ? 1 : 0;
        refuserStays = is == 1;
        return before;
    }

    // ---- swaps

    public int rather(int boat, int buoy) {
        Boat it = bay.boatAt(boat);
        if (it == null || bay.buoyAt(buoy) == null) {
            return finding(BEYOND);
        }
        if (it.wishesFor(buoy)) {
            return finding(STATE);
        }
        if (it.wishCount >= MOST_WISHES) {
            return finding(FULL);
        }
        it.addWish(buoy);
        return it.wishCount;
    }

    public int content(int boat) {
        Boat it = bay.boatAt(boat);
        if (it == null) {
            return finding(BEYOND);
        }
        int before = it.wishCount;
        it.wishCount = 0;
        return before;
    }

    public int ring(int boat) {
        if (bay.boatAt(boat) == null) {
            return finding(BEYOND);
        }
        if (bay.berths.buoyOf(boat) == NOWHERE) {
            return finding(STATE);
        }
        rings.draw();
        return rings.buoyFor(boat);
    }

    public int swap() {
        rings.draw();
        int moved = 0;
        for (int n = 0; n < bay.boatCount; n++) {
            if (rings.buoyFor(n) != bay.berths.buoyOf(n)) {
                moved++;
            }
        }
        // RINGS only pass round the BUOYS that have BOATS, so each old place is overwritten.
        for (int n = 0; n < bay.boatCount; n++) {
            bay.berths.put(n, rings.buoyFor(n));
        }
        bay.dropWishes();
        return moved;
    }

    // ---- chains

    public int years(int n) {
        if (!within(n, 1, 30)) {
            return finding(BEYOND);
        }
        for (int year = 0; year < n; year++) {
            bay.passYear();
        }
        return bay.partedChains();
    }

    public int look(int buoy, int v, int more) {
        Buoy it = bay.buoyAt(buoy);
        if (it == null || !within(v, 0, WORN_OUT) || !isFlag(more)) {
            return finding(BEYOND);
        }
        boolean canBe = more == 1 ? v <= it.high : v > it.low;
        if (!canBe) {
            return finding(NONE);
        }
        if (more == 1) {
            it.low = Math.max(it.low, v);
        } else {
            it.high = Math.min(it.high, v - 1);
        }
        return it.doubt();
    }

    public int next() {
        int least = bay.leastKnown();
        return least == NOWHERE ? finding(NONE) : least;
    }

    public int renew(int buoy) {
        Buoy it = bay.buoyAt(buoy);
        if (it == null) {
            return finding(BEYOND);
        }
        int before = it.high;
        it.low = 0;
        it.high = 0;
        return before;
    }

    public int storm(int s) {
        if (!isForce(s)) {
            return finding(BEYOND);
        }
        flight.blow(s);
        return flight.fleeing;
    }

    public int fled(int boat, int s) {
        if (bay.boatAt(boat) == null || !isForce(s)) {
            return finding(BEYOND);
        }
        if (bay.berths.buoyOf(boat) == NOWHERE) {
            return finding(STATE);
        }
        flight.blow(s);
        return flight.berths.buoyOf(boat);
    }

    // ---- dues

    public int rate(int v) {
        if (!within(v, 0, 100)) {
            return finding(BEYOND);
        }
        int before = rateNow;
        rateNow = v;
        return before;
    }

    public int dues() {
        int sum = 0;
        for (int n = 0; n < bay.boatCount; n++) {
            Boat it = bay.boatAt(n);
            if (it != null && bay.berths.buoyOf(n) != NOWHERE) {
                sum += it.fee(rateNow);
            }
        }
        return sum;
    }

    // ---- what is told

    public int tell(int v) {
        if (numberCount >= MOST_NUMBERS) {
            return finding(FULL);
        }
        numbers[numberCount] = v;
        numberCount++;
        return numberCount;
    }

    public int check() {
        int told = numberCount;
        numberCount = 0;
        rings.draw();
        for (int i = 0; i < told; i++) {
            if (i >= bay.boatCount || numbers[i] != rings.buoyFor(i)) {
                return 1 + i;
            }
        }
        return 0;
    }

    public int count(int what) {
        switch (what) {
            case 0:
                return bay.buoyCount;
            case 1:
                return bay.boatCount;
            case 2:
                return bay.lyingBoats();
            case 3:
                return waiting.size;
            case 4:
                return numberCount;
            case 5:
                return bay.partedChains();
            case 6:
                return Integer.bitCount(bay.windBits);
            default:
                return finding(BEYOND);
        }
    }

    public int found(int k) {
        if (!within(k, BEYOND, KIND)) {
            return finding(BEYOND);
        }
        return findings[k];
    }

    // ---- what the acts above share

    private int finding(int k) {
        if (within(k, BEYOND, KIND)) {
            findings[k]++;
        }
        return LOW - k;
    }

    /** The BOAT to which the BUOY is offered, or the finding that says why there is none. */
    private int offeredBoat(int buoy) {
        Buoy it = bay.buoyAt(buoy);
        if (it == null) {
            return finding(BEYOND);
        }
        if (bay.berths.boatOf(buoy) != NOBODY) {
            return finding(STATE);
        }
        int first = waiting.firstFor(it);
        return first == NOBODY ? finding(NONE) : first;
    }

    private static boolean within(int v, int least, int greatest) {
        return v >= least && v <= greatest;
    }

    private static boolean isKind(int kind) {
        return within(kind, KIND_BOAT, KIND_DRY);
    }

    private static boolean isHour(int hour) {
        return within(hour, 0, HOURS - 1);
    }

    private static boolean isFlag(int is) {
        return within(is, 0, 1);
    }

    private static boolean isForce(int s) {
        return within(s, 1, 100);
    }

    /** A BUOY, with the WEAR of its CHAIN between low and high. */
    private static final class Buoy {
        final int number;
        final int x;
        final int y;
        final int depth;
        final int chain;
        // The root is dear and asked for often, and only a new TIDE changes it.
        private final int[] slack = new int[HOURS];
        int low = 0;
        int high = 0;

        Buoy(int number, int x, int y, int depth, int chain) {
            this.number = number;
            this.x = x;
            this.y = y;
            this.depth = depth;
            this.chain = chain;
        }

        void flood(int hour, int tide) {
            if (!isHour(hour)) {
                return;
            }
            int water = depth + tide;
            slack[hour] = water >= chain ? 0 : wholeRoot(chain * chain - water * water);
        }

        int slackAt(int hour) {
            return hour >= 0 && hour < HOURS ? slack[hour] : 0;
        }

        boolean isParted() {
            return low >= PARTED_FROM;
        }

        int doubt() {
            return high - low;
        }

        void wear(boolean underLongBoat) {
            low = Math.min(low + 3, WORN_OUT);
            high = Math.min(high + (underLongBoat ? 20 : 12), WORN_OUT);
        }

        boolean holds(Boat boat, int force) {
            return high + force + boat.length / 10 <= 100;
        }

        /** Of at most 400 * 400, so nine binary places are enough. */
        private static int wholeRoot(int square) {
            int root = 0;
            for (int bit = 256; bit > 0; bit >>= 1) {
                int tried = root + bit;
                if (tried * tried <= square) {
                    root = tried;
                }
            }
            return root;
        }
    }

    /** A BOAT of any KIND, with the row of BUOYS that it would rather have. */
    private abstract static class Boat {
        final int number;
        final int length;
        final int draught;
        private final int[] wishes = new int[MOST_WISHES];
        int wishCount = 0;
        /** As bits: the BUOYS refused since it came to THE LIST. */
        int refused = 0;

        Boat(int number, int length, int draught) {
            this.number = number;
            this.length = length;
            this.draught = draught;
        }

        abstract int kindNumber();

        /** What it adds to the chain's part of OUT. */
        int reach() {
            return length;
        }

        /** The least water in which it FITS. */
        int need() {
            return draught;
        }

        /** Its DUES, wherever it lies. */
        int fee(int rate) {
            return plainFee(rate);
        }

        final boolean isOf(int kind) {
            return kind == KIND_BOAT || kind == kindNumber();
        }

        final int plainFee(int rate) {
            return (length * rate + 9) / 10;
        }

        final boolean hasRefused(int buoy) {
            return (refused >> buoy & 1) != 0;
        }

        final int wishAt(int place) {
            return within(place, 0, wishCount - 1) && place < MOST_WISHES ? wishes[place] : NOWHERE;
        }

        final boolean wishesFor(int buoy) {
            for (int i = 0; i < wishCount; i++) {
                if (wishAt(i) == buoy) {
                    return true;
                }
            }
            return false;
        }

        final void addWish(int buoy) {
            if (wishCount < MOST_WISHES) {
                wishes[wishCount] = buoy;
                wishCount++;
            }
        }
    }

    private static final class Single extends Boat {
        Single(int number, int length, int draught) {
            super(number, length, draught);
        }

        int kindNumber() {
            return KIND_BOAT;
        }
    }

    private static final class Twin extends Boat {
        Twin(int number, int length, int draught) {
            super(number, length, draught);
        }

        int kindNumber() {
            return KIND_TWIN;
        }

        int reach() {
            return length + length / 2;
        }

        int fee(int rate) {
            int plain = plainFee(rate);
            return plain + plain / 2;
        }
    }

    private static final class Dry extends Boat {
        Dry(int number, int length, int draught) {
            super(number, length, draught);
        }

        int kindNumber() {
            return KIND_DRY;
        }

        int need() {
            return draught / 2;
        }
    }

    /** Which BOAT lies at which BUOY; a storm is tried out on a copy. */
    private static final class Berths {
        private final int[] buoyOfBoat = new int[MOST_BOATS];
        private final int[] boatOfBuoy = new int[MOST_BUOYS];

        Berths() {
            Arrays.fill(buoyOfBoat, NOWHERE);
            Arrays.fill(boatOfBuoy, NOBODY);
        }

        int buoyOf(int boat) {
            return within(boat, 0, MOST_BOATS - 1) ? buoyOfBoat[boat] : NOWHERE;
        }

        int boatOf(int buoy) {
            return within(buoy, 0, MOST_BUOYS - 1) ? boatOfBuoy[buoy] : NOBODY;
        }

        void put(int boat, int buoy) {
            if (within(boat, 0, MOST_BOATS - 1) && within(buoy, 0, MOST_BUOYS - 1)) {
                buoyOfBoat[boat] = buoy;
                boatOfBuoy[buoy] = boat;
            }
        }

        void lift(int boat) {
            int buoy = buoyOf(boat);
            if (within(boat, 0, MOST_BOATS - 1) && within(buoy, 0, MOST_BUOYS - 1)) {
                boatOfBuoy[buoy] = NOBODY;
                buoyOfBoat[boat] = NOWHERE;
            }
        }

        void copyFrom(Berths other) {
            System.arraycopy(other.buoyOfBoat, 0, buoyOfBoat, 0, MOST_BOATS);
            System.arraycopy(other.boatOfBuoy, 0, boatOfBuoy, 0, MOST_BUOYS);
        }
    }

    /** The BUOYS, BOATS, TIDES and WINDS, and what follows from them alone. */
    private static final class Bay {
        // Asked for by buoyAt and boatAt alone, which look at the number; they answer null for none.
        private final Buoy[] buoys = new Buoy[MOST_BUOYS];
        private final Boat[] boats = new Boat[MOST_BOATS];
        final int[] tides = new int[HOURS];
        // An HOUR with the TIDE of an earlier one can tell nothing new about touching.
        private final boolean[] repeated = new boolean[HOURS];
        final Berths berths = new Berths();
        int buoyCount = 0;
        int boatCount = 0;
        int windBits = ALL_WINDS;
        private int leastTide = 0;

        Bay() {
            for (int hour = 1; hour < HOURS; hour++) {
                repeated[hour] = true;
            }
        }

        Buoy buoyAt(int number) {
            return within(number, 0, buoyCount - 1) && number < MOST_BUOYS ? buoys[number] : null;
        }

        Boat boatAt(int number) {
            return within(number, 0, boatCount - 1) && number < MOST_BOATS ? boats[number] : null;
        }

        int addBuoy(int x, int y, int depth, int chain) {
            int number = buoyCount;
            if (number < MOST_BUOYS) {
                Buoy it = new Buoy(number, x, y, depth, chain);
                for (int hour = 0; hour < HOURS; hour++) {
                    it.flood(hour, tides[hour]);
                }
                buoys[number] = it;
                buoyCount++;
            }
            return number;
        }

        int addBoat(int kind, int length, int draught) {
            int number = boatCount;
            if (number < MOST_BOATS) {
                boats[number] = newBoat(kind, number, length, draught);
                boatCount++;
            }
            return number;
        }

        private static Boat newBoat(int kind, int number, int length, int draught) {
            switch (kind) {
                case KIND_TWIN:
                    return new Twin(number, length, draught);
                case KIND_DRY:
                    return new Dry(number, length, draught);
                default:
                    return new Single(number, length, draught);
            }
        }

        void setTide(int hour, int v) {
            if (!isHour(hour)) {
                return;
            }
            tides[hour] = v;
            for (int n = 0; n < buoyCount; n++) {
                Buoy buoy = buoyAt(n);
                if (buoy != null) {
                    buoy.flood(hour, v);
                }
            }
            leastTide = tides[0];
            for (int h = 0; h < HOURS; h++) {
                leastTide = Math.min(leastTide, tides[h]);
                repeated[h] = isEarlierTide(h);
            }
        }

        private boolean isEarlierTide(int hour) {
            for (int h = 0; h < hour; h++) {
                if (tides[h] == tides[hour]) {
                    return true;
                }
            }
            return false;
        }

        /** FITS: the least TIDE stands for every HOUR. */
        boolean suits(Boat boat, Buoy buoy) {
            return boat.length <= buoy.chain && buoy.depth + leastTide >= boat.need();
        }

        boolean mayLie(Boat boat, Buoy buoy, Berths lying) {
            if (lying.boatOf(buoy.number) != NOBODY || !suits(boat, buoy)) {
                return false;
            }
            for (int n = 0; n < boatCount; n++) {
                Boat other = n == boat.number ? null : boatAt(n);
                Buoy there = buoyAt(lying.buoyOf(n));
                if (other != null && there != null && firstTouch(boat, buoy, other, there) != NEVER) {
                    return false;
                }
            }
            return true;
        }

        int firstTouch(Boat one, Buoy here, Boat other, Buoy there) {
            int dx = there.x - here.x;
            int dy = there.y - here.y;
            int reach = one.reach();
            int otherReach = other.reach();
            for (int hour = 0; hour < HOURS; hour++) {
                if (!repeated[hour]
                        && mayMeet(dx, dy, here.slackAt(hour) + reach, there.slackAt(hour) + otherReach)) {
                    return hour;
                }
            }
            return NEVER;
        }

        /** Whether two may TOUCH whose OUTS are these, the other's BUOY lying dx, dy from the one's. */
        private boolean mayMeet(int dx, int dy, int out, int otherOut) {
            int apart = Math.max(Math.abs(dx), Math.abs(dy));
            if (apart < Math.min(out, otherOut)) {
                return true;
            }
            // WINDS beside one another never point against each other along x or y,
            // so far ends come nearer than their BUOYS by the greater OUT at most.
            if (apart >= Math.max(out, otherOut) + NEAR) {
                return false;
            }
            for (int wind = 0; wind <= LAST_WIND; wind++) {
                for (int turn = -1; turn <= 1; turn++) {
                    int beside = wind + turn & LAST_WIND;
                    if (blows(wind) && blows(beside) && endsMeet(dx, dy, out, wind, otherOut, beside)) {
                        return true;
                    }
                }
            }
            return false;
        }

        private boolean blows(int wind) {
            return (windBits >> wind & 1) != 0;
        }

        private static boolean endsMeet(int dx, int dy, int out, int wind, int otherOut, int otherWind) {
            // The odd WINDS are those of two steps.
            int far = (wind & 1) != 0 ? out * 7 / 10 : out;
            int otherFar = (otherWind & 1) != 0 ? otherOut * 7 / 10 : otherOut;
            int one = wind & LAST_WIND;
            int other = otherWind & LAST_WIND;
            int x = dx + otherFar * WIND_X[other] - far * WIND_X[one];
            int y = dy + otherFar * WIND_Y[other] - far * WIND_Y[one];
            return x < NEAR && x > -NEAR && y < NEAR && y > -NEAR;
        }

        boolean anyLies(int bits) {
            for (int n = 0; n < boatCount; n++) {
                if ((bits >> n & 1) != 0 && berths.buoyOf(n) != NOWHERE) {
                    return true;
                }
            }
            return false;
        }

        int lyingBoats() {
            int lying = 0;
            for (int n = 0; n < boatCount; n++) {
                if (berths.buoyOf(n) != NOWHERE) {
                    lying++;
                }
            }
            return lying;
        }

        /** Nobody tells any BUOY any more. */
        void dropWishes() {
            for (int n = 0; n < boatCount; n++) {
                Boat boat = boatAt(n);
                if (boat != null) {
                    boat.wishCount = 0;
                }
            }
        }

        void passYear() {
            for (int n = 0; n < buoyCount; n++) {
                Buoy buoy = buoyAt(n);
                Boat boat = boatAt(berths.boatOf(n));
                if (buoy != null) {
                    buoy.wear(boat != null && boat.length >= LONG_BOAT);
                }
            }
        }

        int partedChains() {
            int parted = 0;
            for (int n = 0; n < buoyCount; n++) {
                Buoy buoy = buoyAt(n);
                if (buoy != null && buoy.isParted()) {
                    parted++;
                }
            }
            return parted;
        }

        /** THE NEXT LOOK, or NOWHERE if there are no BUOYS. */
        int leastKnown() {
            Buoy best = null;
            for (int n = 0; n < buoyCount; n++) {
                Buoy buoy = buoyAt(n);
                if (buoy != null && (best == null || isLessKnown(buoy, best))) {
                    best = buoy;
                }
            }
            return best == null ? NOWHERE : best.number;
        }

        private static boolean isLessKnown(Buoy one, Buoy other) {
            if (one.doubt() != other.doubt()) {
                return one.doubt() > other.doubt();
            }
            return one.high > other.high;
        }
    }

    /** THE LIST, by numbers of BOATS. */
    private static final class WaitingList {
        private final Bay bay;
        private final int[] queue = new int[MOST_WAITING];
        int size = 0;

        WaitingList(Bay bay) {
            this.bay = bay;
        }

        int placeOf(int boat) {
            for (int i = 0; i < size; i++) {
                if (queue[i] == boat) {
                    return i;
                }
            }
            return -1;
        }

        void append(int boat) {
            if (size < MOST_WAITING) {
                queue[size] = boat;
                size++;
            }
        }

        /** Does nothing for a place that isn't on the list, such as that of one who doesn't wait. */
        void drop(int place) {
            if (!within(place, 0, size - 1)) {
                return;
            }
            for (int i = place + 1; i < size; i++) {
                queue[i - 1] = queue[i];
            }
            size--;
        }

        int firstFor(Buoy buoy) {
            for (int i = 0; i < size; i++) {
                Boat boat = bay.boatAt(queue[i]);
                if (boat != null && !boat.hasRefused(buoy.number) && bay.mayLie(boat, buoy, bay.berths)) {
                    return queue[i];
                }
            }
            return NOBODY;
        }
    }

    /**
     * The search for THE MOST. It tries BUOYS by numbers and none last, so that of several ways with
     * as many BOATS the first that it comes to is the one that is due.
     */
    private static final class Search {
        private static final int UNKNOWN = -1;

        private final Bay bay;
        private final Boat[] asked = new Boat[MOST_ASKED];
        private int size = 0;
        /** By level, then by BOAT asked for: the BUOYS, as bits, that those before leave it. */
        private final int[] open = new int[(MOST_ASKED + 1) * MOST_ASKED];
        /** By BOAT, its BUOY, and another BOAT: the BUOYS, as bits, that the other can't have beside it. */
        private final int[] barred = new int[MOST_ASKED * MOST_BUOYS * MOST_ASKED];
        private final int[] trial = new int[MOST_ASKED];
        private final int[] best = new int[MOST_ASKED];
        int bestCount = 0;

        Search(Bay bay) {
            this.bay = bay;
        }

        void run(int boats) {
            size = 0;
            for (int n = 0; n < bay.boatCount; n++) {
                Boat boat = (boats >> n & 1) != 0 ? bay.boatAt(n) : null;
                if (boat != null && size < MOST_ASKED) {
                    asked[size] = boat;
                    open[size] = openAtFirst(boat);
                    size++;
                }
            }
            Arrays.fill(barred, UNKNOWN);
            bestCount = -1;
            settle(0, 0);
        }

        int buoyFor(int i) {
            return within(i, 0, size - 1) && i < MOST_ASKED ? best[i] : NOWHERE;
        }

        private int openAtFirst(Boat boat) {
            int bits = 0;
            for (int b = 0; b < bay.buoyCount; b++) {
                Buoy buoy = bay.buoyAt(b);
                if (buoy != null && bay.mayLie(boat, buoy, bay.berths)) {
                    bits |= 1 << b;
                }
            }
            return bits;
        }

        /** Gives the BOAT of this level each BUOY that is left to it, then none. */
        private void settle(int level, int settled) {
            if (level >= size || level >= MOST_ASKED) {
                keepIfBetter(settled);
                return;
            }
            if (settled + hopefulFrom(level) <= bestCount) {
                return;
            }
            int choice = open[level * MOST_ASKED + level];
            for (int b = 0; b < bay.buoyCount; b++) {
                if ((choice >> b & 1) != 0) {
                    trial[level] = b;
                    narrow(level, b);
                    settle(level + 1, settled + 1);
                }
            }
            trial[level] = NOWHERE;
            narrow(level, NOWHERE);
            settle(level + 1, settled);
        }

        private void keepIfBetter(int settled) {
            if (settled > bestCount) {
                bestCount = settled;
                System.arraycopy(trial, 0, best, 0, MOST_ASKED);
            }
        }

        private int hopefulFrom(int level) {
            int hopeful = 0;
            for (int i = level; i < size; i++) {
                if (open[level * MOST_ASKED + i] != 0) {
                    hopeful++;
                }
            }
            return hopeful;
        }

        /** What is left to those behind this level, once its BOAT lies at the BUOY (or nowhere). */
        private void narrow(int level, int buoy) {
            for (int i = level + 1; i < size; i++) {
                int left = open[level * MOST_ASKED + i];
                if (buoy != NOWHERE) {
                    left &= ~barredBy(level, buoy, i);
                }
                open[(level + 1) * MOST_ASKED + i] = left;
            }
        }

        private int barredBy(int one, int buoy, int other) {
            int slot = (one * MOST_BUOYS + buoy) * MOST_ASKED + other;
            if (barred[slot] != UNKNOWN) {
                return barred[slot];
            }
            Boat mine = asked[one];
            Boat its = asked[other];
            Buoy here = bay.buoyAt(buoy);
            if (mine == null || its == null || here == null) {
                return 0;
            }
            int bits = 1 << buoy;
            for (int b = 0; b < bay.buoyCount; b++) {
                boolean hopedFor = b != buoy && (open[other] >> b & 1) != 0;
                Buoy there = hopedFor ? bay.buoyAt(b) : null;
                if (there != null && bay.firstTouch(mine, here, its, there) != NEVER) {
                    bits |= 1 << b;
                }
            }
            barred[slot] = bits;
            return bits;
        }
    }

    /** RINGS, drawn anew whenever they are asked for. */
    private static final class Rings {
        private final Bay bay;
        private final int[] gets = new int[MOST_BOATS];
        private final int[] pointsAt = new int[MOST_BOATS];
        /** As bits: the BOATS that lie and are not yet in a ring. */
        private int left = 0;

        Rings(Bay bay) {
            this.bay = bay;
        }

        int buoyFor(int boat) {
            return within(boat, 0, MOST_BOATS - 1) ? gets[boat] : NOWHERE;
        }

        void draw() {
            left = 0;
            for (int n = 0; n < bay.boatCount; n++) {
                gets[n] = bay.berths.buoyOf(n);
                if (gets[n] != NOWHERE) {
                    left |= 1 << n;
                }
            }
            for (int round = 0; round < MOST_BOATS && left != 0; round++) {
                pointAll();
                takeRing(leastInRing());
            }
        }

        private boolean isLeft(int boat) {
            return within(boat, 0, MOST_BOATS - 1) && (left >> boat & 1) != 0;
        }

        private int pointedAtBy(int boat) {
            return within(boat, 0, MOST_BOATS - 1) ? pointsAt[boat] : NOBODY;
        }

        private void pointAll() {
            for (int n = 0; n < bay.boatCount; n++) {
                Boat boat = isLeft(n) ? bay.boatAt(n) : null;
                if (boat != null) {
                    pointsAt[n] = holderOfWish(boat);
                }
            }
        }

        /** The BOAT at the BUOY that this one points at: itself, if it points at its own. */
        private int holderOfWish(Boat boat) {
            for (int i = 0; i < boat.wishCount; i++) {
                Buoy wish = bay.buoyAt(boat.wishAt(i));
                if (wish != null && isLeft(bay.berths.boatOf(wish.number)) && bay.suits(boat, wish)) {
                    return bay.berths.boatOf(wish.number);
                }
            }
            return boat.number;
        }

        private int leastInRing() {
            for (int n = 0; n < bay.boatCount; n++) {
                if (isLeft(n) && comesRound(n)) {
                    return n;
                }
            }
            return NOBODY;
        }

        private boolean comesRound(int start) {
            int at = pointedAtBy(start);
            for (int step = 0; step < MOST_BOATS && at != start; step++) {
                at = pointedAtBy(at);
            }
            return at == start;
        }

        private void takeRing(int start) {
            int at = start;
            for (int step = 0; step < MOST_BOATS && isLeft(at); step++) {
                left &= ~(1 << at);
                gets[at] = bay.berths.buoyOf(pointsAt[at]);
                at = pointsAt[at];
            }
        }
    }

    /** A STORM tried out: where each BOAT lies after it. */
    private static final class Flight {
        private final Bay bay;
        final Berths berths = new Berths();
        int fleeing = 0;

        Flight(Bay bay) {
            this.bay = bay;
        }

        void blow(int force) {
            berths.copyFrom(bay.berths);
            fleeing = 0;
            for (int n = 0; n < bay.boatCount; n++) {
                Boat boat = bay.boatAt(n);
                Buoy own = bay.buoyAt(berths.buoyOf(n));
                if (boat != null && own != null && !own.holds(boat, force)) {
                    fleeing++;
                    int refuge = refugeOf(boat, force);
                    berths.lift(n);
                    berths.put(n, refuge);
                }
            }
        }

        private int refugeOf(Boat boat, int force) {
            for (int b = 0; b < bay.buoyCount; b++) {
                Buoy buoy = bay.buoyAt(b);
                if (buoy != null && buoy.holds(boat, force) && bay.mayLie(boat, buoy, berths)) {
                    return b;
                }
            }
            return NOWHERE;
        }
    }
}
