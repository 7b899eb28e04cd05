public final class Promise13CollectTest {
    public static void main(String[] args) {
        Due due = new Due("Promise 13: collect");
        howMany(due);
        ofNothing(due);
        wrongNumbers(due);
        edges(due);
        down(due);
        failing(due);
        due.end();
    }

    /** Of five records, of which the first and the last are needed. */
    private static TrailStore five() {
        TrailStore x = new TrailStore(600);
        Due.put(x, 1, 2, 11);
        Due.put(x, 2, 3, 22);
        Due.put(x, 2, 4, 33);
        x.remove(2);
        Due.put(x, 3, 5, 44);
        return x;
    }

    private static void howMany(Due due) {
        due.sentence("Collects n: how many records were looked at.");
        int[] tails = {14, 29, 45, 57, 74, 74};
        for (int n = 1; n <= 6; n++) {
            TrailStore x = five();
            due.is("collect(" + n + ") of five", x.collect(n), Math.min(n, 5));
            due.told(x, 0, n < 5 ? 88 : 105, 1, tails[n - 1], 2, 74, 5, n < 5 ? 1 : 2, 8, 2);
            due.value(x, 1, 11, 11);
            due.value(x, 3, 44, 44, 44, 44, 44);
        }
    }

    private static void ofNothing(Due due) {
        due.sentence("n at most, none from HEAD on as it was then, are looked at");
        TrailStore x = new TrailStore(600);
        due.is("collect(1) of nothing", x.collect(1), 0);
        due.is("collect(1000) of nothing", x.collect(1000), 0);
        due.told(x, 0, 0, 4, 0, 7, 0);
        x.put(1);
        x.remove(1);
        due.is("collect(1000) of what is not needed", x.collect(1000), 2);
        due.told(x, 0, 24, 1, 24, 4, 2);
        due.is("collect(1000) of nothing again", x.collect(1000), 0);
        due.told(x, 0, 24, 1, 24, 4, 2);
    }

    private static void wrongNumbers(Due due) {
        due.sentence("NONE when n is not 1 .. 1000.");
        TrailStore x = five();
        for (int n : new int[] {0, -1, 1001, 1002, -1000, Integer.MIN_VALUE, Integer.MAX_VALUE}) {
            due.none("collect(" + n + ")", x.collect(n));
            due.told(x, 0, 74, 1, 0, 4, 0, 7, 14);
        }
    }

    private static void edges(Due due) {
        due.sentence("when n is not 1 .. 1000");
        due.is("collect(1)", five().collect(1), 1);
        due.is("collect(999)", five().collect(999), 5);
        due.is("collect(1000)", five().collect(1000), 5);
    }

    private static void down(Due due) {
        due.sentence("NONE when n is not 1 .. 1000. DOWN.");
        TrailStore x = five();
        x.crash(99, 0);
        for (int n : new int[] {1, 1000, 0, 1001, -1}) {
            due.down("collect(" + n + ")", x.collect(n));
        }
        due.is("open()", x.open(), 5);
    }

    /** A checkpoint is four writes, two records moved are six, the root is three. */
    private static void failing(Due due) {
        due.sentence("whenever the power fails, what was synced is there again");
        for (int n = 1; n <= 14; n++) {
            for (int keep = 0; keep < 7; keep++) {
                TrailStore x = new TrailStore(600);
                Due.put(x, 1, 1, 10);
                Due.put(x, 2, 1, 20);
                x.fail(n, keep, 2);
                due.is("collect(5) failing at " + n, x.collect(5), n < 14 ? TrailStore.DOWN : 2);
                if (n < 14) {
                    x.open();
                }
                due.value(x, 1, 10);
                due.value(x, 2, 20);
                due.told(x, 8, 2);
                due.is("check()", x.check(), 1);
            }
        }
    }
}
