import java.util.ArrayList;
import java.util.Arrays;
import java.util.List;
import java.util.Random;

/**
 * Long mixed runs from fixed seeds: every answer of TrailStore is held against PlainStore. As an object
 * is used for 512 calls alone, it is looked into by twins, which are brought to where the run is.
 */
public final class RandomRunsTest {
    private static final int RUNS = 1500;
    private static final int MOST_CALLS = 512;
    private static final int LOOKS = 100;

    private static final String[] NAMES = {"type", "put", "remove", "begin", "commit", "cancel", "get", "read",
        "next", "sync", "checkpoint", "collect", "crash", "fail", "spare", "open", "told", "table", "entry",
        "cell", "check"};

    /** How often each call is made, in the order of NAMES: mixed, filling, batches, removals, failing, all removed. */
    private static final int[][] WEIGHTS = {
        {20, 30, 8, 3, 3, 1, 10, 6, 3, 3, 3, 3, 2, 2, 1, 40, 5, 3, 4, 3, 2},
        {30, 80, 5, 0, 0, 0, 5, 2, 1, 0, 0, 1, 0, 0, 0, 10, 1, 1, 1, 1, 1},
        {50, 60, 10, 15, 8, 1, 5, 2, 1, 1, 1, 1, 2, 1, 0, 20, 1, 1, 1, 1, 1},
        {5, 40, 40, 1, 1, 0, 3, 1, 2, 1, 3, 2, 1, 0, 0, 10, 1, 1, 1, 1, 1},
        {20, 40, 10, 6, 4, 0, 5, 2, 1, 2, 3, 3, 3, 12, 1, 60, 1, 1, 1, 1, 1},
        {1, 0, 80, 20, 12, 0, 1, 1, 1, 1, 2, 1, 1, 1, 0, 10, 1, 1, 1, 1, 1},
    };

    private static int wrong = 0;

    private final Random random;
    private final int room;
    private final TrailStore store;
    private final PlainStore plain;
    private final int[] weights;
    private final int keys;
    private final int longest;
    private final int run;
    private final List<long[]> calls = new ArrayList<>();

    private RandomRunsTest(int run) {
        this.run = run;
        random = new Random(run);
        int[] rooms = {512, 513, 600, 700, 900, 1300, 2000, 4096};
        room = rooms[random.nextInt(rooms.length)];
        store = new TrailStore(room);
        plain = new PlainStore(room);
        weights = WEIGHTS[run % WEIGHTS.length];
        keys = new int[] {3, 10, 26, 50, 120}[random.nextInt(5)];
        longest = new int[] {1, 3, 8, 8}[random.nextInt(4)];
    }

    private void due(String what, int got, int want) {
        if (got != want) {
            wrong++;
            if (wrong < 20) {
                System.out.println("run " + run + ", behind " + calls.size() + " calls, the last "
                        + told(calls.get(calls.size() - 1)) + ": " + what + " answered " + got + ", due is " + want);
            }
        }
    }

    private static String told(long[] call) {
        return NAMES[(int) call[0]] + Arrays.toString(Arrays.copyOfRange(call, 1, 4));
    }

    private int pick() {
        int left = random.nextInt(Arrays.stream(weights).sum());
        int name = 0;
        while (left >= weights[name]) {
            left -= weights[name];
            name++;
        }
        return name;
    }

    private int key() {
        return random.nextInt(60) == 0 ? random.nextInt(400) - 200 : random.nextInt(keys);
    }

    private int few(int most) {
        int odd = random.nextInt(40);
        return odd == 0 ? -1 : odd == 1 ? Integer.MAX_VALUE : random.nextInt(most);
    }

    /** A call as a row: which one, and up to three numbers. */
    private long[] any() {
        int name = pick();
        long bytes = random.nextLong();
        int n = random.nextInt(30) == 0 ? random.nextInt(20) - 5 : 1 + random.nextInt(longest);
        int some = random.nextInt(4) == 0 ? random.nextInt(1003) - 1 : 1 + random.nextInt(6);
        int write = random.nextInt(10) == 0 ? random.nextInt(1003) - 1 : 1 + random.nextInt(25);
        int cut = few(random.nextBoolean() ? 20 : 300);
        return switch (NAMES[name]) {
            case "type" -> new long[] {name, bytes, n, 0};
            case "put", "remove", "get", "next" -> new long[] {name, key(), 0, 0};
            case "read" -> new long[] {name, few(70), 0, 0};
            case "collect" -> new long[] {name, some, 0, 0};
            case "crash" -> new long[] {name, few(40), cut, 0};
            case "fail" -> new long[] {name, write, few(20), cut};
            case "told" -> new long[] {name, few(16), 0, 0};
            case "table" -> new long[] {name, few(6), few(8), 0};
            case "entry" -> new long[] {name, key(), few(5), 0};
            case "cell" -> new long[] {name, few(4), few(16000), 0};
            default -> new long[] {name, 0, 0, 0};
        };
    }

    private static int answer(TrailStore x, long[] call) {
        int a = (int) call[1];
        int b = (int) call[2];
        int c = (int) call[3];
        return switch (NAMES[(int) call[0]]) {
            case "type" -> x.type(call[1], b);
            case "put" -> x.put(a);
            case "remove" -> x.remove(a);
            case "begin" -> x.begin();
            case "commit" -> x.commit();
            case "cancel" -> x.cancel();
            case "get" -> x.get(a);
            case "read" -> x.read(a);
            case "next" -> x.next(a);
            case "sync" -> x.sync();
            case "checkpoint" -> x.checkpoint();
            case "collect" -> x.collect(a);
            case "crash" -> x.crash(a, b);
            case "fail" -> x.fail(a, b, c);
            case "spare" -> x.spare();
            case "open" -> x.open();
            case "told" -> x.told(a);
            case "table" -> x.table(a, b);
            case "entry" -> x.entry(a, b);
            case "cell" -> x.cell(a, b);
            default -> x.check();
        };
    }

    private static int answer(PlainStore x, long[] call) {
        int a = (int) call[1];
        int b = (int) call[2];
        int c = (int) call[3];
        return switch (NAMES[(int) call[0]]) {
            case "type" -> x.type(call[1], b);
            case "put" -> x.put(a);
            case "remove" -> x.remove(a);
            case "begin" -> x.begin();
            case "commit" -> x.commit();
            case "cancel" -> x.cancel();
            case "get" -> x.get(a);
            case "read" -> x.read(a);
            case "next" -> x.next(a);
            case "sync" -> x.sync();
            case "checkpoint" -> x.checkpoint();
            case "collect" -> x.collect(a);
            case "crash" -> x.crash(a, b);
            case "fail" -> x.fail(a, b, c);
            case "spare" -> x.spare();
            case "open" -> x.open();
            case "told" -> x.told(a);
            case "table" -> x.table(a, b);
            case "entry" -> x.entry(a, b);
            case "cell" -> x.cell(a, b);
            default -> x.check();
        };
    }

    /** A second object, which made the same calls. */
    private TrailStore twin() {
        TrailStore twin = new TrailStore(room);
        for (long[] call : calls) {
            answer(twin, call);
        }
        return twin;
    }

    private void lookInside() {
        TrailStore twin = twin();
        for (int what = -1; what <= 15; what++) {
            due("told " + what, twin.told(what), plain.told(what));
        }
        for (int i = 0; i < 35; i++) {
            due("table " + i / 7 + " " + i % 7, twin.table(i / 7, i % 7), plain.table(i / 7, i % 7));
        }
        for (int i = 0; i < 20; i++) {
            int key = random.nextInt(keys);
            due("entry " + key + " " + i % 4, twin.entry(key, i % 4), plain.entry(key, i % 4));
        }
        int around = Math.max(plain.told(random.nextInt(2)), 0) + room - 8;
        for (int i = 0; i < 20; i++) {
            int at = (around + i) % room;
            due("cell 0 " + at, twin.cell(0, at), plain.cell(0, at));
        }
        due("check", twin.check(), plain.check());
    }

    private void lookAtDisk() {
        for (int area = 0; area < 3; area++) {
            int bytes = new int[] {room, 15600, 128}[area];
            for (int from = 0; from < bytes; from += LOOKS) {
                TrailStore twin = twin();
                for (int i = from; i < from + LOOKS && i < bytes; i++) {
                    due("cell " + area + " " + i, twin.cell(area, i), plain.cell(area, i));
                }
            }
        }
    }

    /** Each key with its value; the last of all, as PlainStore has read something then. */
    private void lookAtValues() {
        for (int key = 0; key < keys && !isDown(); key++) {
            TrailStore twin = twin();
            due("get " + key, twin.get(key), plain.get(key));
            for (int i = -1; i <= 64; i++) {
                due("read " + i, twin.read(i), plain.read(i));
            }
        }
    }

    private boolean isDown() {
        return plain.told(0) == PlainStore.DOWN;
    }

    private void go(int[] seen) {
        boolean looking = run % 4 != 0;
        int most = looking ? MOST_CALLS - LOOKS : MOST_CALLS;
        for (int i = 0; i < most && wrong == 0; i++) {
            long[] call = any();
            calls.add(call);
            due("it", answer(store, call), answer(plain, call));
            if (looking && random.nextInt(20) == 0) {
                lookInside();
            }
        }
        if (looking && wrong == 0) {
            if (run % 50 == 1) {
                lookAtDisk();
            }
            if (run % 10 == 2) {
                lookAtValues();
            }
        }
        for (int i = 0; i < seen.length; i++) {
            seen[i] += plain.seen[i];
        }
    }

    public static void main(String[] args) {
        int[] seen = new int[8];
        int runs = args.length > 0 ? Integer.parseInt(args[0]) : RUNS;
        for (int run = 0; run < runs && wrong == 0; run++) {
            new RandomRunsTest(run).go(seen);
        }
        for (int i = 0; i < seen.length; i++) {
            if (seen[i] == 0) {
                wrong++;
                System.out.println("the runs never came to the rare case " + i);
            }
        }
        System.out.println(runs + " random runs, rare cases " + Arrays.toString(seen) + ", wrong " + wrong);
        if (wrong != 0) {
            System.exit(1);
        }
    }
}
