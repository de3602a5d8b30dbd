import java.util.ArrayList;
import java.util.Arrays;
import java.util.List;
import java.util.Random;

/**
 * Runs of calls by a fixed seed, each answer beside that of a second writing of the document, which takes
 * its words one by one (every HOUR, every pair of WINDS, every way of THE MOST) and saves no work.
 */
public final class ModelRuns {
    private static final int LOW = -1000000;
    private static final int BEYOND = 1;
    private static final int NONE = 2;
    private static final int STATE = 3;
    private static final int FULL = 4;
    private static final int KIND = 5;

    private static final int[][] WAYS = {{0, -1}, {1, -1}, {1, 0}, {1, 1}, {0, 1}, {-1, 1}, {-1, 0}, {-1, -1}};
    private static final String[] NAMES = {
        "buoy", "boat", "as", "tide", "winds", "about", "of", "out", "fits", "touch", "moor", "leave", "most",
        "wait", "away", "offer", "answer", "stays", "rather", "content", "ring", "swap", "years", "look", "next",
        "renew", "storm", "fled", "rate", "dues", "tell", "check", "count", "found",
    };
    /** How often each of them is called, in the order of NAMES. */
    private static final int[] WEIGHTS = {
        2, 2, 3, 4, 2, 5, 4, 3, 3, 8, 12, 4, 3,
        6, 2, 5, 5, 1, 10, 1, 8, 2, 1, 4, 3,
        2, 4, 8, 1, 2, 8, 3, 3, 2,
    };

    public static void main(String[] args) {
        int[] findings = new int[6];
        int[] good = new int[NAMES.length];
        for (int run = 0; run < 1200; run++) {
            if (!agrees(run, good, findings)) {
                System.exit(1);
            }
        }
        for (int i = 0; i < NAMES.length; i++) {
            if (good[i] < 100) {
                System.out.println(NAMES[i] + " was answered without a finding only " + good[i] + " times");
                System.exit(1);
            }
        }
        System.out.println("all answers are those of the model, findings " + Arrays.toString(findings));
    }

    private static boolean agrees(int run, int[] good, int[] findings) {
        Random random = new Random(run);
        Style style = new Style(random);
        BayMoorings x = new BayMoorings();
        Model model = new Model();
        List<String> calls = new ArrayList<>();
        for (int i = 0; i < 512; i++) {
            int call = i < 60 && random.nextInt(3) > 0 ? random.nextInt(2) : style.pick(random);
            int[] a = style.arguments(random, model, call);
            int want = model.answer(call, a);
            int got = answer(x, call, a);
            calls.add(NAMES[call] + Arrays.toString(a) + " = " + got);
            if (got != want) {
                calls.forEach(System.out::println);
                System.out.println("run " + run + ": the last one is wrong, due is " + want);
                return false;
            }
            if (want < LOW && want >= LOW - KIND) {
                findings[LOW - want]++;
            } else {
                good[call]++;
            }
        }
        return true;
    }

    private static int answer(BayMoorings x, int call, int[] a) {
        switch (NAMES[call]) {
            case "buoy": return x.buoy(a[0], a[1], a[2], a[3]);
            case "boat": return x.boat(a[0], a[1], a[2]);
            case "as": return x.as(a[0], a[1]);
            case "tide": return x.tide(a[0], a[1]);
            case "winds": return x.winds(a[0]);
            case "about": return x.about(a[0], a[1]);
            case "of": return x.of(a[0], a[1]);
            case "out": return x.out(a[0], a[1], a[2]);
            case "fits": return x.fits(a[0], a[1]);
            case "touch": return x.touch(a[0], a[1], a[2], a[3]);
            case "moor": return x.moor(a[0], a[1]);
            case "leave": return x.leave(a[0]);
            case "most": return x.most(a[0], a[1]);
            case "wait": return x.wait(a[0]);
            case "away": return x.away(a[0]);
            case "offer": return x.offer(a[0]);
            case "answer": return x.answer(a[0], a[1]);
            case "stays": return x.stays(a[0]);
            case "rather": return x.rather(a[0], a[1]);
            case "content": return x.content(a[0]);
            case "ring": return x.ring(a[0]);
            case "swap": return x.swap();
            case "years": return x.years(a[0]);
            case "look": return x.look(a[0], a[1], a[2]);
            case "next": return x.next();
            case "renew": return x.renew(a[0]);
            case "storm": return x.storm(a[0]);
            case "fled": return x.fled(a[0], a[1]);
            case "rate": return x.rate(a[0]);
            case "dues": return x.dues();
            case "tell": return x.tell(a[0]);
            case "check": return x.check();
            case "count": return x.count(a[0]);
            default: return x.found(a[0]);
        }
    }

    /** What the bay of a run is like: wide or narrow, deep or not, with long boats or short ones. */
    private static final class Style {
        final int width;
        final int deepest;
        final int longest;
        final int longestChain;
        final int highest;
        final int wildness;
        final int total;

        Style(Random random) {
            width = random.nextInt(3) == 0 ? 100 : 1000;
            deepest = random.nextInt(2) == 0 ? 60 : 301;
            longest = random.nextInt(2) == 0 ? 40 : 301;
            longestChain = random.nextInt(2) == 0 ? 60 : 401;
            highest = random.nextInt(2) == 0 ? 5 : 201;
            wildness = 20 + random.nextInt(60);
            int sum = 0;
            for (int weight : WEIGHTS) {
                sum += weight;
            }
            total = sum;
        }

        int pick(Random random) {
            int left = random.nextInt(total);
            int call = 0;
            while (left >= WEIGHTS[call]) {
                left -= WEIGHTS[call];
                call++;
            }
            return call;
        }

        int[] arguments(Random r, Model m, int call) {
            int[] a = tame(r, m, call);
            if (a.length > 0 && r.nextInt(wildness) == 0) {
                int[] wild = {-1, Integer.MIN_VALUE, Integer.MAX_VALUE, 1000, 12, 16, r.nextInt(), r.nextInt(600) - 100};
                a[r.nextInt(a.length)] = wild[r.nextInt(wild.length)];
            }
            return a;
        }

        private int[] tame(Random r, Model m, int call) {
            int boat = r.nextInt(m.boats.size() + 1);
            int buoy = r.nextInt(m.buoys.size() + 1);
            if (boat == m.boats.size() && r.nextInt(4) > 0) {
                boat = 0;
            }
            if (buoy == m.buoys.size() && r.nextInt(4) > 0) {
                buoy = 0;
            }
            switch (NAMES[call]) {
                case "buoy":
                    return new int[] {r.nextInt(width), r.nextInt(width), r.nextInt(deepest), 10 + r.nextInt(longestChain - 10)};
                case "boat":
                    return new int[] {r.nextInt(3), 10 + r.nextInt(longest - 10), r.nextInt(Math.min(101, deepest))};
                case "as": return new int[] {boat, r.nextInt(3)};
                case "tide": return new int[] {r.nextInt(24), r.nextInt(highest)};
                case "winds": return new int[] {r.nextInt(2) == 0 ? 1 << r.nextInt(8) | 1 << r.nextInt(8) : r.nextInt(256)};
                case "about": return new int[] {boat, r.nextInt(6)};
                case "of": return new int[] {buoy, r.nextInt(8)};
                case "out": return new int[] {boat, buoy, r.nextInt(24)};
                case "fits": case "moor": case "rather": return new int[] {boat, buoy};
                case "touch":
                    return new int[] {boat, buoy, r.nextInt(m.boats.size() + 1), r.nextInt(m.buoys.size() + 1)};
                case "most": return new int[] {someBoats(r, m), r.nextInt(6)};
                case "answer": return new int[] {buoy, r.nextInt(2)};
                case "offer": case "renew": return new int[] {buoy};
                case "stays": return new int[] {r.nextInt(2)};
                case "years": return new int[] {1 + r.nextInt(4)};
                case "look": return new int[] {buoy, r.nextInt(101), r.nextInt(2)};
                case "storm": return new int[] {1 + r.nextInt(100)};
                case "fled": return new int[] {boat, 1 + r.nextInt(100)};
                case "rate": return new int[] {r.nextInt(101)};
                case "tell": return new int[] {tellable(r, m)};
                case "count": return new int[] {r.nextInt(7)};
                case "found": return new int[] {1 + r.nextInt(5)};
                case "swap": case "next": case "dues": case "check": return new int[0];
                default: return new int[] {boat};
            }
        }

        private int someBoats(Random r, Model m) {
            int bits = 0;
            for (int i = r.nextInt(6); i > 0; i--) {
                int boat = r.nextInt(m.boats.size() + 1);
                boolean lies = boat < m.boats.size() && m.boats.get(boat).buoy >= 0;
                bits |= lies && r.nextInt(8) > 0 ? 0 : 1 << boat;
            }
            return bits;
        }

        private int tellable(Random r, Model m) {
            int next = m.numbers.size();
            boolean right = next < m.boats.size() && r.nextInt(8) > 0;
            return right ? m.rings()[next] : r.nextInt(14) - 1;
        }
    }

    private static final class Buoy {
        int x;
        int y;
        int depth;
        int chain;
        int low;
        int high;
    }

    private static final class Boat {
        int kind;
        int length;
        int draught;
        int buoy = -1;
        List<Integer> rather = new ArrayList<>();
        List<Integer> refused = new ArrayList<>();
    }

    /** The document, written a second time. */
    private static final class Model {
        final List<Buoy> buoys = new ArrayList<>();
        final List<Boat> boats = new ArrayList<>();
        final List<Integer> list = new ArrayList<>();
        final List<Integer> numbers = new ArrayList<>();
        final int[] tides = new int[24];
        final int[] found = new int[6];
        int winds = 255;
        int rate = 3;
        boolean stays = true;

        int answer(int call, int[] a) {
            int got = act(NAMES[call], a);
            if (got < LOW && got >= LOW - KIND) {
                found[LOW - got]++;
            }
            return got;
        }

        int act(String name, int[] a) {
            switch (name) {
                case "buoy": return addBuoy(a);
                case "boat": return addBoat(a);
                case "as": return as(a[0], a[1]);
                case "tide": return tide(a[0], a[1]);
                case "winds": return winds(a[0]);
                case "about": return about(a[0], a[1]);
                case "of": return of(a[0], a[1]);
                case "out": return !isBoat(a[0]) || !isBuoy(a[1]) || a[2] < 0 || a[2] > 23 ? LOW - BEYOND : out(a[0], a[1], a[2]);
                case "fits": return !isBoat(a[0]) || !isBuoy(a[1]) ? LOW - BEYOND : fits(a[0], a[1]) ? 1 : 0;
                case "touch": return touch(a);
                case "moor": return moor(a[0], a[1]);
                case "leave": return leave(a[0]);
                case "most": return most(a[0], a[1]);
                case "wait": return waits(a[0]);
                case "away": return away(a[0]);
                case "offer": return offer(a[0]);
                case "answer": return answerOffer(a[0], a[1]);
                case "stays": return stays(a[0]);
                case "rather": return rather(a[0], a[1]);
                case "content": return content(a[0]);
                case "ring": return !isBoat(a[0]) ? LOW - BEYOND : boats.get(a[0]).buoy < 0 ? LOW - STATE : rings()[a[0]];
                case "swap": return swap();
                case "years": return years(a[0]);
                case "look": return look(a[0], a[1], a[2]);
                case "next": return next();
                case "renew": return renew(a[0]);
                case "storm": return a[0] < 1 || a[0] > 100 ? LOW - BEYOND : storm(a[0])[boats.size()];
                case "fled": return fled(a[0], a[1]);
                case "rate": return rate(a[0]);
                case "dues": return boats.stream().mapToInt(b -> b.buoy < 0 ? 0 : dues(b)).sum();
                case "tell": return tell(a[0]);
                case "check": return check();
                case "count": return count(a[0]);
                default: return a[0] < 1 || a[0] > 5 ? LOW - BEYOND : found[a[0]];
            }
        }

        boolean isBoat(int n) {
            return n >= 0 && n < boats.size();
        }

        boolean isBuoy(int n) {
            return n >= 0 && n < buoys.size();
        }

        int boatAt(int buoy) {
            for (int n = 0; n < boats.size(); n++) {
                if (boats.get(n).buoy == buoy) {
                    return n;
                }
            }
            return -1;
        }

        int addBuoy(int[] a) {
            if (a[0] < 0 || a[0] > 999 || a[1] < 0 || a[1] > 999 || a[2] < 0 || a[2] > 300 || a[3] < 10 || a[3] > 400) {
                return LOW - BEYOND;
            }
            if (buoys.size() == 12) {
                return LOW - FULL;
            }
            Buoy b = new Buoy();
            b.x = a[0];
            b.y = a[1];
            b.depth = a[2];
            b.chain = a[3];
            buoys.add(b);
            return buoys.size() - 1;
        }

        int addBoat(int[] a) {
            if (a[0] < 0 || a[0] > 2 || a[1] < 10 || a[1] > 300 || a[2] < 0 || a[2] > 100) {
                return LOW - BEYOND;
            }
            if (boats.size() == 16) {
                return LOW - FULL;
            }
            Boat b = new Boat();
            b.kind = a[0];
            b.length = a[1];
            b.draught = a[2];
            boats.add(b);
            return boats.size() - 1;
        }

        int dues(Boat b) {
            int exact = b.length * rate;
            int due = exact / 10 + (exact % 10 > 0 ? 1 : 0);
            return b.kind == 1 ? 3 * due / 2 : due;
        }

        int as(int boat, int kind) {
            if (!isBoat(boat) || kind < 0 || kind > 2) {
                return LOW - BEYOND;
            }
            Boat b = boats.get(boat);
            return kind != 0 && b.kind != kind ? LOW - KIND : dues(b);
        }

        int tide(int hour, int v) {
            if (hour < 0 || hour > 23 || v < 0 || v > 200) {
                return LOW - BEYOND;
            }
            int was = tides[hour];
            tides[hour] = v;
            return was;
        }

        int winds(int bits) {
            if (bits < 1 || bits > 255) {
                return LOW - BEYOND;
            }
            int was = winds;
            winds = bits;
            return was;
        }

        int about(int boat, int what) {
            if (!isBoat(boat) || what < 0 || what > 5) {
                return LOW - BEYOND;
            }
            Boat b = boats.get(boat);
            return new int[] {b.kind, b.length, b.draught, b.buoy, list.indexOf(boat), b.buoy < 0 ? 0 : dues(b)}[what];
        }

        int of(int buoy, int what) {
            if (!isBuoy(buoy) || what < 0 || what > 7) {
                return LOW - BEYOND;
            }
            Buoy b = buoys.get(buoy);
            return new int[] {b.x, b.y, b.depth, b.chain, boatAt(buoy), b.low, b.high, b.low >= 60 ? 1 : 0}[what];
        }

        int out(int boat, int buoy, int hour) {
            Boat b = boats.get(boat);
            Buoy at = buoys.get(buoy);
            int w = at.depth + tides[hour];
            int slack = w >= at.chain ? 0 : (int) Math.floor(Math.sqrt(at.chain * at.chain - w * w));
            return slack + b.length + (b.kind == 1 ? b.length / 2 : 0);
        }

        boolean fits(int boat, int buoy) {
            Boat b = boats.get(boat);
            Buoy at = buoys.get(buoy);
            boolean fits = b.length <= at.chain;
            for (int tide : tides) {
                fits &= at.depth + tide >= (b.kind == 2 ? b.draught / 2 : b.draught);
            }
            return fits;
        }

        int[] farEnd(int boat, int buoy, int hour, int wind) {
            int out = out(boat, buoy, hour);
            int[] way = WAYS[wind];
            boolean twoSteps = way[0] != 0 && way[1] != 0;
            int x = twoSteps ? out * way[0] * 7 / 10 : out * way[0];
            int y = twoSteps ? out * way[1] * 7 / 10 : out * way[1];
            return new int[] {buoys.get(buoy).x + x, buoys.get(buoy).y + y};
        }

        boolean touchAt(int boat, int buoy, int other, int at, int hour) {
            Buoy here = buoys.get(buoy);
            Buoy there = buoys.get(at);
            int lesser = Math.min(out(boat, buoy, hour), out(other, at, hour));
            if (Math.abs(here.x - there.x) < lesser && Math.abs(here.y - there.y) < lesser) {
                return true;
            }
            for (int v = 0; v < 8; v++) {
                for (int w = 0; w < 8; w++) {
                    int differ = Math.abs(v - w);
                    boolean blow = (winds & 1 << v) != 0 && (winds & 1 << w) != 0;
                    if (blow && (differ == 0 || differ == 1 || differ == 7)) {
                        int[] one = farEnd(boat, buoy, hour, v);
                        int[] two = farEnd(other, at, hour, w);
                        if (Math.abs(one[0] - two[0]) < 20 && Math.abs(one[1] - two[1]) < 20) {
                            return true;
                        }
                    }
                }
            }
            return false;
        }

        int firstTouch(int boat, int buoy, int other, int at) {
            for (int hour = 0; hour < 24; hour++) {
                if (touchAt(boat, buoy, other, at, hour)) {
                    return hour;
                }
            }
            return -1;
        }

        int touch(int[] a) {
            if (!isBoat(a[0]) || !isBuoy(a[1]) || !isBoat(a[2]) || !isBuoy(a[3]) || a[0] == a[2] || a[1] == a[3]) {
                return LOW - BEYOND;
            }
            return firstTouch(a[0], a[1], a[2], a[3]);
        }

        boolean mayLie(int boat, int buoy) {
            if (boatAt(buoy) >= 0 || !fits(boat, buoy)) {
                return false;
            }
            for (int n = 0; n < boats.size(); n++) {
                if (n != boat && boats.get(n).buoy >= 0 && firstTouch(boat, buoy, n, boats.get(n).buoy) >= 0) {
                    return false;
                }
            }
            return true;
        }

        int moor(int boat, int buoy) {
            if (!isBoat(boat) || !isBuoy(buoy)) {
                return LOW - BEYOND;
            }
            if (boats.get(boat).buoy >= 0 || boatAt(buoy) >= 0) {
                return LOW - STATE;
            }
            if (!mayLie(boat, buoy)) {
                return LOW - NONE;
            }
            boats.get(boat).buoy = buoy;
            list.remove((Integer) boat);
            return 1;
        }

        int leave(int boat) {
            if (!isBoat(boat)) {
                return LOW - BEYOND;
            }
            int was = boats.get(boat).buoy;
            boats.get(boat).buoy = -1;
            return was < 0 ? LOW - STATE : was;
        }

        int most(int bits, int what) {
            List<Integer> asked = new ArrayList<>();
            for (int n = 0; n < 32; n++) {
                if ((bits & 1 << n) != 0) {
                    asked.add(n);
                }
            }
            for (int n : asked) {
                if (!isBoat(n)) {
                    return LOW - BEYOND;
                }
            }
            if (asked.size() > 5 || what < 0 || what > asked.size()) {
                return LOW - BEYOND;
            }
            for (int n : asked) {
                if (boats.get(n).buoy >= 0) {
                    return LOW - STATE;
                }
            }
            int[] best = everyWay(asked);
            return what > 0 ? best[what - 1] : (int) Arrays.stream(best).filter(b -> b >= 0).count();
        }

        /** Counts through all ways in the order of the document, none being greater than all. */
        int[] everyWay(List<Integer> asked) {
            int size = asked.size();
            int none = buoys.size();
            boolean[][] may = new boolean[size][none + 1];
            int[][][][] touch = new int[size][none][size][none];
            for (int i = 0; i < size; i++) {
                for (int b = 0; b < none; b++) {
                    may[i][b] = mayLie(asked.get(i), b);
                }
                may[i][none] = true;
            }
            int[] way = new int[size];
            int[] best = new int[size];
            int most = -1;
            int ways = (int) Math.round(Math.pow(none + 1, size));
            for (int number = 0; number < ways; number++) {
                int left = number;
                for (int i = size - 1; i >= 0; i--) {
                    way[i] = left % (none + 1);
                    left /= none + 1;
                }
                int get = howMany(asked, way, may, touch, none);
                if (get > most) {
                    most = get;
                    best = way.clone();
                }
            }
            for (int i = 0; i < size; i++) {
                best[i] = best[i] == none ? -1 : best[i];
            }
            return best;
        }

        int howMany(List<Integer> asked, int[] way, boolean[][] may, int[][][][] touch, int none) {
            int get = 0;
            for (int i = 0; i < way.length; i++) {
                if (!may[i][way[i]]) {
                    return -1;
                }
                get += way[i] < none ? 1 : 0;
            }
            for (int i = 0; i < way.length; i++) {
                for (int j = 0; j < i; j++) {
                    if (way[i] < none && way[j] < none) {
                        if (way[i] == way[j]) {
                            return -1;
                        }
                        int[] memo = touch[i][way[i]][j];
                        if (memo[way[j]] == 0) {
                            memo[way[j]] = firstTouch(asked.get(i), way[i], asked.get(j), way[j]) >= 0 ? 2 : 1;
                        }
                        if (memo[way[j]] == 2) {
                            return -1;
                        }
                    }
                }
            }
            return get;
        }

        int waits(int boat) {
            if (!isBoat(boat)) {
                return LOW - BEYOND;
            }
            if (boats.get(boat).buoy >= 0 || list.contains(boat)) {
                return LOW - STATE;
            }
            if (list.size() == 10) {
                return LOW - FULL;
            }
            list.add(boat);
            boats.get(boat).refused.clear();
            return list.size();
        }

        int away(int boat) {
            if (!isBoat(boat)) {
                return LOW - BEYOND;
            }
            int place = list.indexOf(boat);
            list.remove((Integer) boat);
            return place < 0 ? LOW - STATE : place;
        }

        int offer(int buoy) {
            if (!isBuoy(buoy)) {
                return LOW - BEYOND;
            }
            if (boatAt(buoy) >= 0) {
                return LOW - STATE;
            }
            for (int boat : list) {
                if (mayLie(boat, buoy) && !boats.get(boat).refused.contains(buoy)) {
                    return boat;
                }
            }
            return LOW - NONE;
        }

        int answerOffer(int buoy, int is) {
            if (is != 0 && is != 1) {
                return LOW - BEYOND;
            }
            int boat = offer(buoy);
            if (boat >= 0 && is == 1) {
                boats.get(boat).buoy = buoy;
                list.remove((Integer) boat);
            } else if (boat >= 0) {
                boats.get(boat).refused.add(buoy);
                if (!stays) {
                    list.remove((Integer) boat);
                    list.add(boat);
                }
            }
            return boat;
        }

        int stays(int is) {
            if (is != 0 && is != 1) {
                return LOW - BEYOND;
            }
            boolean was = stays;
            stays = is == 1;
            return was ? 1 : 0;
        }

        int rather(int boat, int buoy) {
            if (!isBoat(boat) || !isBuoy(buoy)) {
                return LOW - BEYOND;
            }
            List<Integer> row = boats.get(boat).rather;
            if (row.contains(buoy)) {
                return LOW - STATE;
            }
            if (row.size() == 4) {
                return LOW - FULL;
            }
            row.add(buoy);
            return row.size();
        }

        int content(int boat) {
            if (!isBoat(boat)) {
                return LOW - BEYOND;
            }
            int was = boats.get(boat).rather.size();
            boats.get(boat).rather.clear();
            return was;
        }

        /** Takes any ring there is: which one comes first can't change who gets what. */
        int[] rings() {
            int[] gets = new int[boats.size()];
            List<Integer> left = new ArrayList<>();
            for (int n = 0; n < gets.length; n++) {
                gets[n] = -1;
                if (boats.get(n).buoy >= 0) {
                    left.add(n);
                }
            }
            while (!left.isEmpty()) {
                int at = left.get(left.size() - 1);
                List<Integer> path = new ArrayList<>();
                while (!path.contains(at)) {
                    path.add(at);
                    at = boatAt(pointed(at, left));
                }
                for (int n : path.subList(path.indexOf(at), path.size())) {
                    gets[n] = pointed(n, left);
                }
                left.removeAll(path.subList(path.indexOf(at), path.size()));
            }
            return gets;
        }

        int pointed(int boat, List<Integer> left) {
            for (int buoy : boats.get(boat).rather) {
                if (left.contains(boatAt(buoy)) && fits(boat, buoy)) {
                    return buoy;
                }
            }
            return boats.get(boat).buoy;
        }

        int swap() {
            int[] gets = rings();
            int moved = 0;
            for (int n = 0; n < gets.length; n++) {
                moved += boats.get(n).buoy != gets[n] ? 1 : 0;
                boats.get(n).buoy = gets[n];
                boats.get(n).rather.clear();
            }
            return moved;
        }

        int years(int n) {
            if (n < 1 || n > 30) {
                return LOW - BEYOND;
            }
            for (int b = 0; b < buoys.size(); b++) {
                Buoy buoy = buoys.get(b);
                boolean heavy = boatAt(b) >= 0 && boats.get(boatAt(b)).length >= 150;
                buoy.low = Math.min(100, buoy.low + 3 * n);
                buoy.high = Math.min(100, buoy.high + (heavy ? 20 : 12) * n);
            }
            return count(5);
        }

        int look(int buoy, int v, int more) {
            if (!isBuoy(buoy) || v < 0 || v > 100 || more < 0 || more > 1) {
                return LOW - BEYOND;
            }
            Buoy b = buoys.get(buoy);
            if (more == 1 && v > b.high || more == 0 && v <= b.low) {
                return LOW - NONE;
            }
            if (more == 1 && v > b.low) {
                b.low = v;
            }
            if (more == 0 && v <= b.high) {
                b.high = v - 1;
            }
            return b.high - b.low;
        }

        int next() {
            int best = -1;
            int bestRank = -1;
            for (int b = 0; b < buoys.size(); b++) {
                int rank = (buoys.get(b).high - buoys.get(b).low) * 1000 + buoys.get(b).high;
                if (rank > bestRank) {
                    best = b;
                    bestRank = rank;
                }
            }
            return best < 0 ? LOW - NONE : best;
        }

        int renew(int buoy) {
            if (!isBuoy(buoy)) {
                return LOW - BEYOND;
            }
            int was = buoys.get(buoy).high;
            buoys.get(buoy).low = 0;
            buoys.get(buoy).high = 0;
            return was;
        }

        boolean holds(int boat, int buoy, int s) {
            return buoys.get(buoy).high + s + boats.get(boat).length / 10 <= 100;
        }

        /** Where each lies after it, and how many fled; the BOATS are put back where they were. */
        int[] storm(int s) {
            int size = boats.size();
            int[] own = new int[size];
            int[] after = new int[size + 1];
            for (int n = 0; n < size; n++) {
                own[n] = boats.get(n).buoy;
            }
            for (int n = 0; n < size; n++) {
                if (own[n] >= 0 && !holds(n, own[n], s)) {
                    after[size]++;
                    int to = -1;
                    for (int b = buoys.size() - 1; b >= 0; b--) {
                        to = holds(n, b, s) && mayLie(n, b) ? b : to;
                    }
                    boats.get(n).buoy = to;
                }
                after[n] = boats.get(n).buoy;
            }
            for (int n = 0; n < size; n++) {
                boats.get(n).buoy = own[n];
            }
            return after;
        }

        int fled(int boat, int s) {
            if (!isBoat(boat) || s < 1 || s > 100) {
                return LOW - BEYOND;
            }
            return boats.get(boat).buoy < 0 ? LOW - STATE : storm(s)[boat];
        }

        int rate(int v) {
            if (v < 0 || v > 100) {
                return LOW - BEYOND;
            }
            int was = rate;
            rate = v;
            return was;
        }

        int tell(int v) {
            if (numbers.size() == 24) {
                return LOW - FULL;
            }
            numbers.add(v);
            return numbers.size();
        }

        int check() {
            int[] gets = rings();
            List<Integer> told = new ArrayList<>(numbers);
            numbers.clear();
            for (int i = 0; i < told.size(); i++) {
                if (i >= gets.length || told.get(i) != gets[i]) {
                    return i + 1;
                }
            }
            return 0;
        }

        int count(int what) {
            switch (what) {
                case 0: return buoys.size();
                case 1: return boats.size();
                case 2: return (int) boats.stream().filter(b -> b.buoy >= 0).count();
                case 3: return list.size();
                case 4: return numbers.size();
                case 5: return (int) buoys.stream().filter(b -> b.low >= 60).count();
                case 6: return Integer.bitCount(winds);
                default: return LOW - BEYOND;
            }
        }
    }
}
