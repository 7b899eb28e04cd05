public final class Promise12CheckpointTest {
    public static void main(String[] args) {
        Due due = new Due("promise 12, checkpoint");
        empty(due);
        ordinary(due);
        fourOfLevelZero(due);
        fortyStayInLevelOne(due);
        fortyOneGoToLevelTwo(due);
        nothingIsLeft(due);
        newestCounts(due);
        failingAtEachWrite(due);
        due.end();
    }

    private static void empty(Due due) {
        TrailStore x = new TrailStore(600);
        due.is("checkpoint() of nothing", x.checkpoint(), 0);
        due.told(x, 2, 0, 4, 1, 6, 0, 7, 0, 14, 1);
        due.cells(x, 2, 64, 0, 0, 0, 1, 0, 0, 0, 0, 0, 0, 0, 0, 0, 0, 0, 1, 0, 0, 0, 1, 0, 0);
        due.cells(x, 2, 124, 0, 0, 0, 1);
        x.crash(0, 0);
        due.is("checkpoint() down", x.checkpoint(), TrailStore.DOWN);
    }

    private static void ordinary(Due due) {
        TrailStore x = new TrailStore(600);
        Due.put(x, 7, 3, 1);
        Due.put(x, 9, 1, 1);
        x.put(5);
        x.remove(5);
        due.is("checkpoint()", x.checkpoint(), 1);
        due.told(x, 0, 52, 1, 0, 2, 52, 3, 5, 4, 1, 5, 0, 6, 1, 7, 0, 14, 2);
        // bits of key 5: 3 and 28, of 7: 17 and 18, of 9: 31 and 8
        due.cells(x, 1, 0, 84, 0, 3, 0, 0, 0, 0, 1, 0x90, 0x06, 0x01, 0x08, 0, 0, 0, 1);
        due.cells(x, 1, 16, 5, 2, 0, 0, 0, 40, 0, 0, 0, 4);
        due.cells(x, 1, 26, 7, 1, 0, 0, 0, 0, 0, 0, 0, 1);
        due.cells(x, 1, 36, 9, 1, 0, 0, 0, 15, 0, 0, 0, 2, 0);
        due.cells(x, 2, 64, 0, 0, 0, 1, 0, 0, 0, 52, 0, 0, 0, 0, 0, 0, 0, 5, 0, 0, 0, 2, 1, 0, 0);
        due.cells(x, 2, 124, 0, 0, 0, 1);
        due.cells(x, 2, 0, 0, 0, 0, 0);
        x.put(7);
        due.is("checkpoint()", x.checkpoint(), 2);
        due.cells(x, 2, 0, 0, 0, 0, 2, 0, 0, 0, 64, 0, 0, 0, 0, 0, 0, 0, 6, 0, 0, 0, 3, 2, 1, 0, 0);
        due.cells(x, 2, 60, 0, 0, 0, 2);
        due.is("checkpoint() with empty memory", x.checkpoint(), 2);
        due.told(x, 4, 3, 14, 3);
    }

    private static void round(TrailStore x, int from, int keys) {
        for (int key = from; key < from + keys; key++) {
            x.put(key);
        }
        x.checkpoint();
    }

    private static void tables(Due due, TrailStore x, int[]... want) {
        due.told(x, 6, want.length);
        for (int i = 0; i < want.length; i++) {
            for (int what = 0; what < want[i].length; what++) {
                due.is("table(" + i + ", " + what + ")", x.table(i, what), want[i][what]);
            }
        }
    }

    private static void fourOfLevelZero(Due due) {
        TrailStore x = new TrailStore(4096);
        round(x, 1, 1);
        round(x, 2, 1);
        round(x, 3, 2);
        tables(due, x, new int[] {0, 2, 2, 3, 3, 4}, new int[] {0, 1, 1, 2, 2, 2}, new int[] {0, 1, 0, 1, 1, 1});
        round(x, 4, 1);
        tables(due, x, new int[] {1, 4, 4, 5, 1, 4});
        due.cells(x, 2, 20, 1, 4, 0, 0, 0, 0);
        due.cells(x, 2, 84, 3, 2, 1, 0, 0, 0);
        due.is("the number of key 4, of the newest table", x.entry(4, 1), 5);
        due.told(x, 14, 6);
        round(x, 5, 1);
        tables(due, x, new int[] {0, 1, 0, 6, 5, 5}, new int[] {1, 4, 4, 5, 1, 4});
        round(x, 6, 1);
        round(x, 7, 1);
        round(x, 0, 1);
        tables(due, x, new int[] {1, 8, 5, 10, 0, 7});
        round(x, 8, 1);
        round(x, 8, 1);
        round(x, 8, 1);
        round(x, 8, 1);
        tables(due, x, new int[] {1, 9, 4, 15, 0, 8});
        due.is("check()", x.check(), 1);
    }

    private static void fortyStayInLevelOne(Due due) {
        TrailStore x = new TrailStore(4096);
        for (int i = 0; i < 4; i++) {
            round(x, 10 * i, 10);
        }
        tables(due, x, new int[] {1, 40, 4, 5, 0, 39});
    }

    private static void fortyOneGoToLevelTwo(Due due) {
        TrailStore x = new TrailStore(4096);
        for (int i = 0; i < 3; i++) {
            round(x, 10 * i, 10);
        }
        for (int key = 30; key < 40; key++) {
            x.put(key);
        }
        x.begin();
        x.remove(119);
        x.commit();
        x.checkpoint();
        // with the removal there were 41, without it 40 are left
        tables(due, x, new int[] {2, 40, 5, 6, 0, 39});
        due.is("entry(119, 0)", x.entry(119, 0), TrailStore.NONE);
        round(x, 100, 1);
        tables(due, x, new int[] {0, 1, 0, 7, 100, 100}, new int[] {2, 40, 5, 6, 0, 39});
        round(x, 100, 1);
        round(x, 100, 1);
        round(x, 100, 1);
        tables(due, x, new int[] {1, 1, 4, 11, 100, 100}, new int[] {2, 40, 5, 6, 0, 39});
        due.is("check()", x.check(), 1);
    }

    private static void nothingIsLeft(Due due) {
        TrailStore x = new TrailStore(4096);
        for (int i = 0; i < 4; i++) {
            round(x, 11 * i, 11);
        }
        tables(due, x, new int[] {2, 44, 5, 6, 0, 43});
        for (int key = 0; key < 44; key++) {
            x.remove(key);
            if (key % 11 == 10) {
                x.checkpoint();
            }
        }
        tables(due, x);
        due.told(x, 5, 0, 8, 0, 14, 12);
        due.is("checkpoint() with no tables", x.checkpoint(), 0);
        due.is("check()", x.check(), 1);
        round(x, 3, 1);
        tables(due, x, new int[] {0, 1, 0, 12, 3, 3});
    }

    private static void newestCounts(Due due) {
        TrailStore x = new TrailStore(4096);
        for (int i = 0; i < 4; i++) {
            Due.put(x, 1, i, i);
            x.put(10 + i);
            x.checkpoint();
        }
        due.value(x, 1, 3, 3, 3);
        x.remove(10);
        x.checkpoint();
        due.is("get(10)", x.get(10), TrailStore.NONE);
        due.is("get(11)", x.get(11), 0);
    }

    /** Four of level 0, one of level 1, one of level 2, and the root: six writes behind the first sync. */
    private static void failingAtEachWrite(Due due) {
        for (int n = 1; n <= 7; n++) {
            for (int keep = 0; keep <= 3; keep++) {
                for (int cut = 0; cut <= 60; cut += 5) {
                    TrailStore x = new TrailStore(4096);
                    for (int i = 0; i < 3; i++) {
                        round(x, 12 * i, 12);
                    }
                    for (int key = 36; key < 48; key++) {
                        Due.put(x, key, 1, key);
                    }
                    x.fail(n, keep, cut);
                    due.is("checkpoint() failing at " + n, x.checkpoint(), n < 7 ? TrailStore.DOWN : 1);
                    if (n < 7) {
                        boolean rootThere = n == 6 && (keep == 3 || keep == 2 && cut >= 4);
                        due.is("open()", x.open(), rootThere ? 0 : 12);
                        due.told(x, 4, rootThere ? 4 : 3, 5, rootThere ? 0 : 12, 6, rootThere ? 1 : 3);
                    }
                    due.told(x, 0, 576 + 12, 3, 49, 8, 48);
                    due.value(x, 47, 47);
                    due.is("check()", x.check(), 1);
                    due.is("spare()", x.spare(), n < 7 ? 0 : 1);
                    due.is("checkpoint() once more", x.checkpoint() > 0 ? 1 : 0, 1);
                    due.is("check()", x.check(), 1);
                }
            }
        }
    }
}
