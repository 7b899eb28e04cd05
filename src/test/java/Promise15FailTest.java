public final class Promise15FailTest {
    public static void main(String[] args) {
        Due due = new Due("Promise 15: fail");
        nthWrite(due);
        thousandthWrite(due);
        otherWrites(due);
        instead(due);
        wrongNumber(due);
        wrongKeepOrCut(due);
        down(due);
        due.end();
    }

    private static void nthWrite(Due due) {
        due.sentence("The power is to fail at the n-th write from now on");
        for (int n = 1; n <= 8; n++) {
            TrailStore x = new TrailStore(600);
            x.put(0);
            due.is("fail(" + n + ", 1000, 0)", x.fail(n, 1000, 0), 1);
            int failing = (n + 1) / 2;
            for (int i = 1; i < failing; i++) {
                due.is("put " + i, x.put(i), 1);
            }
            // two writes each, of which all are kept, the last one too
            due.down("put " + failing, x.put(failing));
            due.is("open()", x.open(), 1 + n / 2);
            due.told(x, 0, 12 * (1 + n / 2));
        }
    }

    /**
     * Each collecting of 24 keys writes a table, the root, 24 records of 3 writes, and the root; each 4th
     * one table more. Twelve of them are 951 writes, 24 puts 48 more, so the next write is the 1000th.
     */
    private static void thousandthWrite(Due due) {
        due.sentence("when n is not 1 .. 1000");
        TrailStore x = new TrailStore(4096);
        for (int key = 0; key < 24; key++) {
            Due.put(x, key, 1, key);
        }
        x.sync();
        due.is("fail(1000, 0, 0)", x.fail(1000, 0, 0), 1);
        for (int i = 0; i < 12; i++) {
            due.is("collect(1000)", x.collect(1000), 24);
        }
        for (int i = 0; i < 24; i++) {
            due.is("put(0)", x.put(0), 1);
        }
        due.told(x, 4, 24, 14, 16, 7, 48);
        due.down("put(0) at whose first write the power fails", x.put(0));
        due.is("open()", x.open(), 24);
    }

    /** Tables, roots and what collecting moves count as writes, an opening's zeros and syncs do not. */
    private static void otherWrites(Due due) {
        due.sentence("A WRITE puts some bytes into an area");
        for (int n = 1; n <= 5; n++) {
            TrailStore x = new TrailStore(600);
            x.put(1);
            x.fail(n, 9, 0);
            due.is("checkpoint() failing at " + n, x.checkpoint(), n < 5 ? TrailStore.DOWN : 1);
            due.is("the table", x.cell(1, 0), 84);
            due.is("the root", x.cell(2, 67), n > 2 ? 1 : 0);
            due.is("the root's end", x.cell(2, 127), n > 3 ? 1 : 0);
        }
        for (int n = 1; n <= 6; n++) {
            TrailStore x = new TrailStore(600);
            x.put(1);
            x.checkpoint();
            x.fail(n, 9, 0);
            due.is("collect(1) failing at " + n, x.collect(1), n < 6 ? TrailStore.DOWN : 1);
            due.is("the record", x.cell(0, 12), n > 1 ? 1 : 0);
            due.is("the root's end", x.cell(2, 63), n > 4 ? 2 : 0);
        }
    }

    private static void instead(Due due) {
        due.sentence("instead of what was told before: 1");
        TrailStore x = new TrailStore(600);
        x.fail(1, 0, 0);
        due.is("fail(4, 4, 0) instead", x.fail(4, 4, 0), 1);
        due.is("put(1)", x.put(1), 1);
        due.down("put(2)", x.put(2));
        due.is("open()", x.open(), 2);
        due.is("put(3), as nothing is told any more", x.put(3), 1);
        due.is("spare()", x.spare(), 0);
        x.fail(9, 9, 9);
        due.is("fail(1, 2, 0) instead", x.fail(1, 2, 0), 1);
        due.down("put(4)", x.put(4));
        due.is("open()", x.open(), 3);
    }

    private static void wrongNumber(Due due) {
        due.sentence("NONE when n is not 1 .. 1000");
        TrailStore x = new TrailStore(600);
        int[] wrong = {0, -1, 1001, 1002, -1000, Integer.MIN_VALUE, Integer.MAX_VALUE};
        for (int n : wrong) {
            due.none("fail(" + n + ", 0, 0)", x.fail(n, 0, 0));
            due.is("spare(), as nothing was told", x.spare(), 0);
        }
        x.fail(3, 9, 0);
        for (int n : wrong) {
            due.none("fail(" + n + ", 0, 0)", x.fail(n, 0, 0));
        }
        due.is("put(1)", x.put(1), 1);
        due.down("put(2), as what was told before stays", x.put(2));
        due.is("open()", x.open(), 1);
    }

    private static void wrongKeepOrCut(Due due) {
        due.sentence("keep or cut below 0");
        TrailStore x = new TrailStore(600);
        int[][] wrong = {{-1, 0}, {0, -1}, {-1, -1}, {Integer.MIN_VALUE, 5}, {5, Integer.MIN_VALUE}};
        for (int[] w : wrong) {
            due.none("fail(1, " + w[0] + ", " + w[1] + ")", x.fail(1, w[0], w[1]));
            due.is("spare(), as nothing was told", x.spare(), 0);
        }
        due.is("put(1)", x.put(1), 1);
        due.is("fail(1, 0, 0)", x.fail(1, 0, 0), 1);
        due.is("fail of the greatest numbers", x.fail(1, Integer.MAX_VALUE, Integer.MAX_VALUE), 1);
        due.down("put(2)", x.put(2));
        due.is("open()", x.open(), 1);
    }

    private static void down(Due due) {
        due.sentence("keep or cut below 0. DOWN.");
        TrailStore x = new TrailStore(600);
        x.crash(0, 0);
        int[][] all = {{1, 0, 0}, {1000, 5, 5}, {0, 0, 0}, {1001, 0, 0}, {1, -1, 0}, {1, 0, -1}};
        for (int[] a : all) {
            due.down("fail(" + a[0] + ", " + a[1] + ", " + a[2] + ")", x.fail(a[0], a[1], a[2]));
        }
        due.is("open()", x.open(), 0);
        due.is("spare()", x.spare(), 0);
        due.is("put(1)", x.put(1), 1);
    }
}
