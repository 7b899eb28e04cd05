import java.util.Arrays;
import java.util.Random;

/** Long mixed runs from fixed seeds: every answer of TrailStore is held against PlainStore. */
public final class RandomRunsTest {
    private static final int RUNS = 1500;
    private static final int CALLS = 512;

    private static final String[] NAMES = {"type", "put", "remove", "begin", "commit", "cancel", "get", "read",
        "next", "sync", "checkpoint", "collect", "crash", "fail", "spare", "open", "told", "table", "entry",
        "cell", "check"};

    /** How often each call is made, in the order of NAMES: mixed, filling, batches, removals, failing, all removed. */
    private static final int[][] WEIGHTS = {
        {20, 30, 8, 3, 3, 1, 10, 6, 3, 3, 3, 3, 2, 2, 1, 40, 5, 3, 4, 3, 2},
        {30, 80, 5, 0, 0, 0, 5, 2, 1, 0, 0, 1, 0, 0, 0, 40, 1, 1, 1, 1, 1},
        {50, 60, 10, 15, 8, 1, 5, 2, 1, 1, 1, 1, 2, 1, 0, 40, 1, 1, 1, 1, 1},
        {5, 40, 40, 1, 1, 0, 3, 1, 2, 1, 3, 2, 1, 0, 0, 40, 1, 1, 1, 1, 1},
        {20, 40, 10, 6, 4, 0, 5, 2, 1, 2, 3, 3, 3, 12, 1, 60, 1, 1, 1, 1, 1},
        {1, 0, 80, 20, 12, 0, 1, 1, 1, 1, 2, 1, 1, 1, 0, 40, 1, 1, 1, 1, 1},
    };

    private static int wrong = 0;

    private final Random random;
    private final TrailStore store;
    private final PlainStore plain;
    private final int[] weights;
    private final int keys;
    private final int longest;
    private final int run;
    private String call;

    private RandomRunsTest(int run) {
        this.run = run;
        random = new Random(run);
        int[] rooms = {512, 513, 600, 700, 900, 1300, 2000, 4096};
        int room = rooms[random.nextInt(rooms.length)];
        store = new TrailStore(room);
        plain = new PlainStore(room);
        weights = WEIGHTS[run % WEIGHTS.length];
        keys = new int[] {3, 10, 26, 50, 120}[random.nextInt(5)];
        longest = new int[] {1, 3, 8, 8}[random.nextInt(4)];
    }

    private void due(String what, int got, int want) {
        if (got != want) {
            wrong++;
            if (wrong < 20) {
                System.out.println("run " + run + ", " + call + ": " + what + " answered " + got + ", due is " + want);
            }
        }
    }

    private int pick() {
        int sum = Arrays.stream(weights).sum();
        int left = random.nextInt(sum);
        int name = 0;
        while (left >= weights[name]) {
            left -= weights[name];
            name++;
        }
        return name;
    }

    private int key() {
        return random.nextInt(60) == 0 ? random.nextInt(400) - 200 : random.nextInt(keys);
    }

    private int few(int most) {
        int odd = random.nextInt(40);
        return odd == 0 ? -1 : odd == 1 ? Integer.MAX_VALUE : random.nextInt(most);
    }

    private void one(int number) {
        int name = pick();
        call = "call " + number + " " + NAMES[name];
        switch (name) {
            case 0: {
                long bytes = random.nextLong();
                int n = random.nextInt(30) == 0 ? random.nextInt(20) - 5 : 1 + random.nextInt(longest);
                due("type", store.type(bytes, n), plain.type(bytes, n));
                break;
            }
            case 1: { int k = key(); due("put " + k, store.put(k), plain.put(k)); break; }
            case 2: { int k = key(); due("remove " + k, store.remove(k), plain.remove(k)); break; }
            case 3: due("begin", store.begin(), plain.begin()); break;
            case 4: due("commit", store.commit(), plain.commit()); break;
            case 5: due("cancel", store.cancel(), plain.cancel()); break;
            case 6: { int k = key(); due("get " + k, store.get(k), plain.get(k)); break; }
            case 7: { int i = few(70); due("read " + i, store.read(i), plain.read(i)); break; }
            case 8: { int k = key(); due("next " + k, store.next(k), plain.next(k)); break; }
            case 9: due("sync", store.sync(), plain.sync()); break;
            case 10: due("checkpoint", store.checkpoint(), plain.checkpoint()); break;
            case 11: {
                int n = random.nextInt(4) == 0 ? random.nextInt(1003) - 1 : 1 + random.nextInt(6);
                due("collect " + n, store.collect(n), plain.collect(n));
                break;
            }
            case 12: {
                int keep = few(40);
                int cut = few(20);
                due("crash " + keep + " " + cut, store.crash(keep, cut), plain.crash(keep, cut));
                compareDisks(random.nextInt(10) == 0);
                break;
            }
            case 13: {
                int n = random.nextInt(10) == 0 ? random.nextInt(1003) - 1 : 1 + random.nextInt(25);
                int keep = few(20);
                int cut = few(random.nextBoolean() ? 20 : 300);
                due("fail " + n + " " + keep + " " + cut, store.fail(n, keep, cut), plain.fail(n, keep, cut));
                break;
            }
            case 14: due("spare", store.spare(), plain.spare()); break;
            case 15: due("open", store.open(), plain.open()); break;
            case 16: { int w = few(16); due("told " + w, store.told(w), plain.told(w)); break; }
            case 17: { int i = few(6); int w = few(8); due("table", store.table(i, w), plain.table(i, w)); break; }
            case 18: { int k = key(); int w = few(5); due("entry", store.entry(k, w), plain.entry(k, w)); break; }
            case 19: { int a = few(4); int i = few(16000); due("cell", store.cell(a, i), plain.cell(a, i)); break; }
            default: due("check", store.check(), plain.check()); break;
        }
        compareState();
    }

    private void compareState() {
        for (int what = -1; what <= 15; what++) {
            due("told " + what, store.told(what), plain.told(what));
        }
        for (int i = 0; i < 5; i++) {
            int what = random.nextInt(7);
            due("table " + i + " " + what, store.table(i, what), plain.table(i, what));
        }
    }

    private void compareAll() {
        call = "at the end";
        for (int key = -1; key <= 120; key++) {
            for (int what = -1; what <= 4; what++) {
                due("entry " + key + " " + what, store.entry(key, what), plain.entry(key, what));
            }
            due("get " + key, store.get(key), plain.get(key));
            for (int i = -1; i <= 64; i++) {
                due("read " + i, store.read(i), plain.read(i));
            }
        }
        due("check", store.check(), plain.check());
        due("check", store.check(), 1);
        compareDisks(true);
    }

    private void compareDisks(boolean all) {
        for (int area = 0; area < 3 && all; area++) {
            for (int i = -1; i <= 15600; i++) {
                int want = plain.cell(area, i);
                due("cell " + area + " " + i, store.cell(area, i), want);
                if (want == PlainStore.NONE && i > 0) {
                    break;
                }
            }
        }
    }

    private void go(int[] seen) {
        for (int i = 0; i < CALLS && wrong == 0; i++) {
            one(i);
        }
        if (wrong == 0) {
            plain.open();
            store.open();
            compareAll();
        }
        for (int i = 0; i < seen.length; i++) {
            seen[i] += plain.seen[i];
        }
    }

    public static void main(String[] args) {
        int[] seen = new int[8];
        int runs = args.length > 0 ? Integer.parseInt(args[0]) : RUNS;
        for (int run = 0; run < runs && wrong == 0; run++) {
            new RandomRunsTest(run).go(seen);
        }
        for (int i = 0; i < seen.length; i++) {
            if (seen[i] == 0) {
                wrong++;
                System.out.println("the runs never came to the rare case " + i);
            }
        }
        System.out.println(runs + " random runs, rare cases " + Arrays.toString(seen) + ", wrong " + wrong);
        if (wrong != 0) {
            System.exit(1);
        }
    }
}
