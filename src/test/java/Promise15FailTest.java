public final class Promise15FailTest {
    public static void main(String[] args) {
        Due due = new Due("promise 15, fail");
        wrongNumbers(due);
        counted(due);
        instead(due);
        keepAndCut(due);
        insideOfWriting(due);
        due.end();
    }

    private static void wrongNumbers(Due due) {
        TrailStore x = new TrailStore(600);
        int[][] wrong = {{0, 0, 0}, {-1, 0, 0}, {1001, 0, 0}, {Integer.MAX_VALUE, 0, 0}, {1, -1, 0}, {1, 0, -1}};
        for (int[] w : wrong) {
            due.is("fail(" + w[0] + ", " + w[1] + ", " + w[2] + ")", x.fail(w[0], w[1], w[2]), TrailStore.NONE);
            due.is("spare()", x.spare(), 0);
        }
        due.is("fail(1000, 0, 0)", x.fail(1000, 0, 0), 1);
        due.is("fail(0, 0, 0)", x.fail(0, 0, 0), TrailStore.NONE);
        due.is("spare() of what was told before", x.spare(), 1);
        due.is("fail of the greatest numbers", x.fail(1, Integer.MAX_VALUE, Integer.MAX_VALUE), 1);
        due.is("put(1)", x.put(1), TrailStore.DOWN);
        due.is("fail(1, 0, 0) down", x.fail(1, 0, 0), TrailStore.DOWN);
        due.is("fail(0, 0, 0) down", x.fail(0, 0, 0), TrailStore.DOWN);
        due.is("open()", x.open(), 0);
    }

    private static void counted(Due due) {
        for (int n = 1; n <= 8; n++) {
            TrailStore x = new TrailStore(600);
            due.is("fail(" + n + ", 1000, 0)", x.fail(n, 1000, 0), 1);
            for (int i = 1; i <= 4; i++) {
                // two writes each, of which all are kept, the last one too
                boolean failed = 2 * i >= n;
                due.is("put " + i, x.put(i), failed ? TrailStore.DOWN : 1);
                if (failed) {
                    break;
                }
            }
            due.is("open()", x.open(), n / 2);
            due.told(x, 0, 12 * (n / 2));
        }
    }

    private static void instead(Due due) {
        TrailStore x = new TrailStore(600);
        x.fail(1, 0, 0);
        due.is("fail(4, 4, 0) instead", x.fail(4, 4, 0), 1);
        due.is("put(1)", x.put(1), 1);
        due.is("put(2)", x.put(2), TrailStore.DOWN);
        due.is("open()", x.open(), 2);
        due.is("put(3), as it is told no more", x.put(3), 1);
        due.is("spare()", x.spare(), 0);
    }

    /** Of the writes that are not lasting, not of those since fail() was called. */
    private static void keepAndCut(Due due) {
        TrailStore x = new TrailStore(600);
        x.put(1);
        x.put(2);
        x.fail(2, 2, 5);
        due.is("put(3)", x.put(3), TrailStore.DOWN);
        due.is("open()", x.open(), 1);
        due.told(x, 8, 1);
        x = new TrailStore(600);
        x.put(1);
        x.sync();
        x.fail(2, 2, 0);
        due.is("put(3)", x.put(3), TrailStore.DOWN);
        due.is("open()", x.open(), 2);
        x = new TrailStore(600);
        Due.put(x, 1, 5, 9);
        x.fail(2, 1, 3);
        due.is("put(3)", Due.put(x, 3, 5, 9), TrailStore.DOWN);
        due.cells(x, 0, 0, 0, 0, 0, 0, 0, 0, 0, 0, 0, 0, 0, 0, 9, 9, 9, 0, 0, 0);
    }

    /** At every write of a put that needs a pass: nothing that was synced is lost. */
    private static void insideOfWriting(Due due) {
        int failed = 0;
        for (int n = 1; n <= 40; n++) {
            for (int keep = 0; keep < 8; keep += 1 + n % 3) {
                TrailStore x = new TrailStore(512);
                for (int key = 0; key < 9; key++) {
                    Due.put(x, key, 24, key);
                }
                x.remove(0);
                x.sync();
                x.fail(n, keep, n % 13);
                boolean down = Due.put(x, 0, 24, 70) == TrailStore.DOWN;
                if (down) {
                    failed++;
                    due.told(x, 0, TrailStore.DOWN);
                    x.open();
                    due.told(x, 12, 0);
                }
                for (int key = 1; key < 9; key++) {
                    due.is("get(" + key + ")", x.get(key), 24);
                    due.is("read(23)", x.read(23), key);
                }
                due.is("check()", x.check(), 1);
            }
        }
        due.is("whether it failed often", failed > 50 ? 1 : 0, 1);
    }
}
