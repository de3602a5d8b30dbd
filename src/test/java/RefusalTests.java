import java.lang.reflect.Method;
import java.lang.reflect.Modifier;
import java.util.ArrayList;
import java.util.Arrays;
import java.util.List;
import java.util.Set;
import java.util.function.Supplier;

/**
 * What the document says of all findings at once: an act tells the first that it asks for, counts that one and no
 * other, and changes nothing else; and acts that only answer change nothing at all.
 */
public final class RefusalTests extends DocTest {
    private static final int LOW = -1000000;
    private static final Set<String> ONLY_ANSWERS = Set.of("as", "about", "of", "out", "fits", "touch", "most", "offer",
        "ring", "next", "storm", "fled", "dues", "count", "found");
    /** Arguments to try, by how many an act takes: on and beside the bounds of the document. */
    private static final int[][] TRIED = {
        {},
        {Integer.MIN_VALUE, -2, -1, 0, 1, 2, 3, 4, 5, 6, 7, 8, 9, 10, 11, 12, 15, 16, 17, 30, 31, 100, 101, 255, 256,
            Integer.MAX_VALUE},
        {Integer.MIN_VALUE, -1, 0, 1, 2, 3, 4, 5, 6, 7, 8, 10, 11, 12, 15, 16, 23, 24, 100, 101, 201, 65536},
        {-1, 0, 1, 3, 6, 9, 10, 12, 16, 24, 101, 301},
        {-1, 0, 1, 4, 12, 301, 1000},
    };

    private interface Act {
        int on(BayMoorings x);
    }

    public static void main(String[] args) {
        baysAreAsTold();
        findingsInOrder();
        changesNothing("a new object", BayMoorings::new);
        changesNothing("a bay with room", RefusalTests::roomy);
        changesNothing("a crowded bay", RefusalTests::crowded);
        end();
    }

    // ---- the order of findings

    /** Both findings are true of this call; the first is the answer, and the only one that is counted. */
    private static void first(String call, Supplier<BayMoorings> bay, Act act, int want) {
        topic("the order of findings, " + call);
        BayMoorings x = bay.get();
        int[] before = foundSoFar(x);
        due(call, act.on(x), want);
        before[LOW - want - 1]++;
        if (!Arrays.equals(before, foundSoFar(x))) {
            complain("found() tells " + Arrays.toString(foundSoFar(x)) + ", due is " + Arrays.toString(before));
        }
    }

    private static int[] foundSoFar(BayMoorings x) {
        int[] found = new int[5];
        for (int k = 1; k <= 5; k++) {
            found[k - 1] = x.found(k);
        }
        return found;
    }

    private static void findingsInOrder() {
        Supplier<BayMoorings> bay = RefusalTests::crowded;
        first("promise 2: BEYOND before FULL", bay, x -> x.buoy(-1, 0, 0, 10), BEYOND);
        first("promise 2: BEYOND before FULL", bay, x -> x.buoy(0, 0, 0, 401), BEYOND);
        first("promise 3: BEYOND before FULL", bay, x -> x.boat(3, 10, 0), BEYOND);
        first("promise 3: BEYOND before FULL", bay, x -> x.boat(0, 10, 101), BEYOND);
        first("promise 4: BEYOND before KIND", bay, x -> x.as(0, 3), BEYOND);
        first("promise 12: BEYOND of the BUOY before STATE of the BOAT", bay, x -> x.moor(0, 12), BEYOND);
        first("promise 12: BEYOND of the BOAT before STATE of the BUOY", bay, x -> x.moor(16, 0), BEYOND);
        first("promise 12: STATE of the BUOY before NONE", bay, x -> x.moor(15, 0), STATE);
        first("promise 12: STATE of the BOAT before NONE", bay, x -> x.moor(2, 11), STATE);
        first("promise 14: BEYOND of the bits before STATE", bay, x -> x.most(1 << 16 | 1, 0), BEYOND);
        first("promise 14: BEYOND of six before STATE", bay, x -> x.most(63, 0), BEYOND);
        first("promise 14: BEYOND of what before STATE", bay, x -> x.most(1, 2), BEYOND);
        first("promise 15: BEYOND before FULL", bay, x -> x.wait(16), BEYOND);
        first("promise 15: STATE of one that lies before FULL", bay, x -> x.wait(0), STATE);
        first("promise 15: STATE of one that waits before FULL", bay, x -> x.wait(7), STATE);
        first("promise 17: STATE before NONE", RefusalTests::roomyWithoutList, x -> x.offer(0), STATE);
        first("promise 18: BEYOND of is before STATE", bay, x -> x.answer(0, 2), BEYOND);
        first("promise 18: BEYOND of is before NONE", RefusalTests::roomyWithoutList, x -> x.answer(1, -1), BEYOND);
        first("promise 18: BEYOND of both", bay, x -> x.answer(12, 2), BEYOND);
        first("promise 18: STATE before NONE", RefusalTests::roomyWithoutList, x -> x.answer(0, 1), STATE);
        first("promise 20: BEYOND of the BUOY before FULL", bay, x -> x.rather(0, 12), BEYOND);
        first("promise 20: STATE before FULL", bay, x -> x.rather(0, 8), STATE);
        first("promise 25: BEYOND of v before NONE", bay, x -> x.look(0, 101, 1), BEYOND);
        first("promise 25: BEYOND of v before NONE", bay, x -> x.look(0, -1, 0), BEYOND);
        first("promise 25: BEYOND of more before NONE", bay, x -> x.look(0, 0, 2), BEYOND);
        first("promise 29: BEYOND of s before STATE", bay, x -> x.fled(15, 101), BEYOND);
        first("promise 29: BEYOND of s before STATE", bay, x -> x.fled(15, 0), BEYOND);
        first("promise 35: BEYOND is counted once", bay, x -> x.found(6), BEYOND);
    }

    // ---- a finding changes nothing

    private static void changesNothing(String name, Supplier<BayMoorings> bay) {
        int[] before = reading(bay.get());
        int refused = 0;
        for (Method method : BayMoorings.class.getDeclaredMethods()) {
            if (Modifier.isPublic(method.getModifiers())) {
                topic("in " + name + " " + method.getName() + "() changes nothing by a finding");
                refused += tryAll(method, bay, before);
            }
        }
        if (refused == 0) {
            complain("nothing was refused in " + name);
        }
    }

    private static int tryAll(Method method, Supplier<BayMoorings> bay, int[] before) {
        int size = method.getParameterCount();
        int[] tried = TRIED[size];
        int ways = 1;
        for (int i = 0; i < size; i++) {
            ways *= tried.length;
        }
        int refused = 0;
        for (int way = 0; way < ways; way++) {
            Object[] arguments = new Object[size];
            int rest = way;
            for (int i = 0; i < size; i++) {
                arguments[i] = tried[rest % tried.length];
                rest /= tried.length;
            }
            BayMoorings x = bay.get();
            int answer = call(method, x, arguments);
            boolean isFinding = answer < LOW;
            if (isFinding || ONLY_ANSWERS.contains(method.getName())) {
                compare(method.getName() + Arrays.toString(arguments), answer, before, reading(x));
            }
            refused += isFinding ? 1 : 0;
        }
        return refused;
    }

    private static int call(Method method, BayMoorings x, Object[] arguments) {
        try {
            return (int) method.invoke(x, arguments);
        } catch (ReflectiveOperationException e) {
            complain(method.getName() + Arrays.toString(arguments) + " threw " + e.getCause());
            return 0;
        }
    }

    private static void compare(String call, int answer, int[] before, int[] after) {
        int[] want = before.clone();
        if (answer < LOW) {
            want[LOW - answer - 1]++;
        }
        if (!Arrays.equals(want, after)) {
            complain(call + " answered " + answer + " and changed " + Arrays.mismatch(want, after) + " of the reading");
        }
    }

    /** All that an object tells, the five counts of findings first. Ends with acts that change what they tell. */
    private static int[] reading(BayMoorings x) {
        List<Integer> told = new ArrayList<>();
        for (int found : foundSoFar(x)) {
            told.add(found);
        }
        for (int what = 0; what <= 6; what++) {
            told.add(x.count(what));
        }
        int buoys = x.count(0);
        int boats = x.count(1);
        for (int b = 0; b < buoys; b++) {
            for (int what = 0; what <= 7; what++) {
                told.add(x.of(b, what));
            }
            told.add(x.offer(b));
        }
        for (int n = 0; n < boats; n++) {
            for (int what = 0; what <= 5; what++) {
                told.add(x.about(n, what));
            }
            if (x.about(n, 3) >= 0) {
                told.add(x.ring(n));
                told.add(x.fled(n, 80));
            }
            told.add(x.content(n));
        }
        told.add(x.dues());
        told.add(x.next());
        told.add(x.check());
        told.add(x.stays(1));
        told.add(x.rate(0));
        told.add(x.winds(255));
        for (int hour = 0; hour < 24; hour++) {
            told.add(x.tide(hour, 0));
        }
        return told.stream().mapToInt(i -> i).toArray();
    }

    // ---- bays

    private static void baysAreAsTold() {
        topic("the bays of these tests");
        int[] roomy = {4, 7, 2, 2, 2, 0, 8};
        int[] crowded = {12, 16, 5, 10, 24, 0, 6};
        for (int what = 0; what <= 6; what++) {
            due("count(" + what + ") of the one with room", roomy().count(what), roomy[what]);
            due("count(" + what + ") of the crowded one", crowded().count(what), crowded[what]);
        }
        due("findings of the one with room", Arrays.stream(foundSoFar(roomy())).sum(), 0);
        due("findings of the crowded one", Arrays.stream(foundSoFar(crowded())).sum(), 1);
        due("BOAT 15 at BUOY 0", crowded().fits(15, 0), 0);
        due("BOAT 2 at BUOY 11", crowded().fits(2, 11), 0);
    }

    /** Four BUOYS, seven BOATS: two lie, two wait, one of which has refused BUOY 1; there is room for more of all. */
    private static BayMoorings roomy() {
        BayMoorings x = new BayMoorings();
        for (int n = 0; n < 4; n++) {
            x.buoy(80 * n, 0, 10, 12);
        }
        for (int n = 0; n < 7; n++) {
            x.boat(n % 3, 10 + n % 3, n);
        }
        x.moor(0, 0);
        x.moor(1, 2);
        x.wait(3);
        x.wait(2);
        x.answer(1, 0);
        x.rather(0, 2);
        x.rather(1, 0);
        x.rather(1, 3);
        x.tide(23, 4);
        x.years(2);
        x.look(1, 9, 1);
        x.tell(2);
        x.tell(0);
        return x;
    }

    private static BayMoorings roomyWithoutList() {
        BayMoorings x = roomy();
        x.away(2);
        x.away(3);
        return x;
    }

    /**
     * All BUOYS, BOATS, numbers, all places on THE LIST; BOATS 0 to 4 lie at BUOYS 0, 2, .. 8, BOAT 15 is too deep for
     * all of them, and BOAT 2 too long for BUOY 11.
     */
    private static BayMoorings crowded() {
        BayMoorings x = new BayMoorings();
        for (int n = 0; n < 12; n++) {
            x.buoy(80 * n, 7 * n, 10, n < 11 ? 12 : 10);
        }
        for (int n = 0; n < 15; n++) {
            x.boat(n % 3, 10 + n % 3, n % 5);
        }
        x.boat(0, 10, 100);
        for (int n = 0; n < 5; n++) {
            x.moor(n, 2 * n);
        }
        for (int n = 5; n < 15; n++) {
            x.wait(n);
        }
        x.answer(1, 0);
        x.stays(0);
        x.answer(1, 0);
        int[][] wishes = {{0, 2}, {0, 4}, {0, 6}, {0, 8}, {1, 0}, {2, 3}, {2, 4}, {3, 0}, {3, 8}, {4, 6}, {5, 3}};
        for (int[] wish : wishes) {
            x.rather(wish[0], wish[1]);
        }
        x.tide(3, 1);
        x.tide(20, 5);
        x.winds(0b10111011);
        x.rate(7);
        x.years(2);
        x.look(0, 7, 1);
        x.look(3, 20, 0);
        x.renew(11);
        for (int i = 0; i < 24; i++) {
            x.tell(i < 5 ? x.ring(i) : -1);
        }
        x.as(0, 1);
        return x;
    }
}
