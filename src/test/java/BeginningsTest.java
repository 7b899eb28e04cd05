import java.util.ArrayList;
import java.util.List;
import java.util.Random;
import java.util.TreeMap;

/**
 * Random runs in which the power fails at any write. All that was put and removed is kept in a list of
 * states, one behind each change; after an opening the store must have one of them, not before the one
 * that was synced.
 */
public final class BeginningsTest {
    private static final int RUNS = 3000;
    private static final int KEYS = 9;
    private static final int MOST_CALLS = 512;
    /** The most that one makes: a batch of 8 long values, and what is asked after an opening. */
    private static final int CALLS_OF_A_ROUND = 120;

    private final Random random;
    private final TrailStore store;
    private final Due due;
    private final int longest;
    private final List<TreeMap<Integer, String>> states = new ArrayList<>();
    private int synced;
    private int calls;
    private int openings;
    private int lost;

    private BeginningsTest(Due due, int run) {
        this.due = due;
        random = new Random(run);
        store = new TrailStore(new int[] {512, 513, 600, 900}[random.nextInt(4)]);
        longest = new int[] {0, 8, 24, 64}[random.nextInt(4)];
        states.add(new TreeMap<>());
    }

    private TreeMap<Integer, String> latest() {
        return states.get(states.size() - 1);
    }

    /** One put or remove, told to the store and laid into a state. */
    private int change(TreeMap<Integer, String> state) {
        int key = random.nextInt(KEYS);
        if (random.nextInt(4) == 0) {
            calls++;
            state.remove(key);
            return store.remove(key);
        }
        int length = random.nextInt(longest + 1);
        int fill = random.nextInt(256);
        Due.type(store, length, fill);
        calls += length / 8 + 2;
        state.put(key, length + " of " + (length == 0 ? -1 : fill));
        return store.put(key);
    }

    private void write() {
        calls += 2;
        int version = store.told(4);
        TreeMap<Integer, String> state = new TreeMap<>(latest());
        int answer;
        if (random.nextInt(3) == 0) {
            calls += 2;
            store.begin();
            for (int left = random.nextInt(8); left >= 0; left--) {
                change(state);
            }
            answer = store.commit();
        } else {
            answer = change(state);
        }
        if (answer == TrailStore.DOWN) {
            states.add(state);
            return;
        }
        if (store.told(4) > version) {
            synced = states.size() - 1;
        }
        if (answer > 0) {
            states.add(state);
        }
    }

    private void keepAll() {
        calls++;
        int which = random.nextInt(4);
        int answer = which == 0 ? store.checkpoint() : which == 1 ? store.collect(1 + random.nextInt(30)) : store.sync();
        if (answer != TrailStore.DOWN) {
            synced = states.size() - 1;
        }
    }

    private void fail() {
        calls++;
        int keep = random.nextInt(random.nextBoolean() ? 6 : 60);
        int cut = random.nextInt(random.nextBoolean() ? 14 : 70);
        if (random.nextBoolean()) {
            store.crash(keep, cut);
        } else {
            store.fail(1 + random.nextInt(40), keep, cut);
        }
    }

    private TreeMap<Integer, String> found() {
        TreeMap<Integer, String> found = new TreeMap<>();
        for (int key = 0; key < KEYS; key++) {
            calls += 2;
            int length = store.get(key);
            if (length >= 0) {
                found.put(key, length + " of " + store.read(0));
            }
        }
        return found;
    }

    private void openAgain() {
        calls += 3;
        openings++;
        store.open();
        TreeMap<Integer, String> found = found();
        int which = states.size() - 1;
        while (which >= synced && !states.get(which).equals(found)) {
            which--;
        }
        due.is("whether there is one of the states from " + synced + " to " + (states.size() - 1),
                which >= synced ? 1 : 0, 1);
        due.is("check()", store.check(), 1);
        due.is("told(8)", store.told(8), found.size());
        lost += states.size() - 1 - which;
        states.clear();
        states.add(found);
        synced = 0;
    }

    private void go() {
        while (calls < MOST_CALLS - CALLS_OF_A_ROUND) {
            int which = random.nextInt(10);
            if (which == 0) {
                fail();
            } else if (which <= 2) {
                keepAll();
            } else {
                write();
            }
            calls++;
            if (store.told(0) == TrailStore.DOWN) {
                openAgain();
            }
        }
        due.is("whether there is the latest state", found().equals(latest()) ? 1 : 0, 1);
    }

    public static void main(String[] args) {
        Due due = new Due("What it is");
        due.sentence("and whenever the power fails, what was synced is there again, and of what came behind a beginning");
        int openings = 0;
        int lost = 0;
        for (int run = 0; run < RUNS; run++) {
            BeginningsTest one = new BeginningsTest(due, run);
            one.go();
            openings += one.openings;
            lost += one.lost;
        }
        due.is("whether it was often opened and something was lost", openings > RUNS && lost > RUNS ? 1 : 0, 1);
        due.end();
    }
}
