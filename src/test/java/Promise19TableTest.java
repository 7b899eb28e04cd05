public final class Promise19TableTest {
    public static void main(String[] args) {
        Due due = new Due("promise 19, table");
        TrailStore x = new TrailStore(600);
        due.is("table(0, 2) of none", x.table(0, 2), 0);
        x.put(7);
        x.put(5);
        due.is("table(0, 1) with memory alone", x.table(0, 1), 0);
        x.checkpoint();
        x.put(119);
        x.put(9);
        x.put(64);
        x.checkpoint();
        // bits: 9 has 31 and 8, 64 has 0 and 5, 119 has 1 and 2
        int[][] want = {{0, 3, 1, 2, 9, 119, 0x80000127}, {0, 2, 0, 1, 5, 7, 268828680}};
        for (int i = 0; i < 2; i++) {
            for (int what = 0; what < 7; what++) {
                due.is("table(" + i + ", " + what + ")", x.table(i, what), want[i][what]);
            }
        }
        for (int other : new int[] {-1, 7, 8, Integer.MIN_VALUE, Integer.MAX_VALUE}) {
            due.is("table(0, " + other + ")", x.table(0, other), 0);
            due.is("table(1, " + other + ")", x.table(1, other), 0);
        }
        for (int other : new int[] {-1, 2, 3, 12, Integer.MIN_VALUE, Integer.MAX_VALUE}) {
            for (int what = -1; what < 8; what++) {
                due.is("table(" + other + ", " + what + ")", x.table(other, what), 0);
            }
        }
        levels(due);
        x.crash(0, 0);
        due.is("table(0, 0) down", x.table(0, 0), TrailStore.DOWN);
        due.is("table(-1, 9) down", x.table(-1, 9), TrailStore.DOWN);
        x.open();
        due.is("table(0, 3) after opening", x.table(0, 3), 2);
        due.is("table(1, 6) after opening", x.table(1, 6), 268828680);
        due.end();
    }

    /** Five at once: three of level 0, one of level 1, one of level 2. */
    private static void levels(Due due) {
        TrailStore x = new TrailStore(4096);
        for (int key = 0; key < 44; key++) {
            x.put(key);
            if (key % 11 == 10) {
                x.checkpoint();
            }
        }
        for (int i = 0; i < 7; i++) {
            x.put(60 + i);
            x.checkpoint();
        }
        int[][] want = {{0, 1, 2, 14, 66, 66}, {0, 1, 1, 13, 65, 65}, {0, 1, 0, 12, 64, 64}, {1, 4, 4, 11, 60, 63},
            {2, 44, 5, 6, 0, 43}};
        due.told(x, 6, 5, 14, 15);
        for (int i = 0; i < 5; i++) {
            for (int what = 0; what < 6; what++) {
                due.is("table(" + i + ", " + what + ") of five", x.table(i, what), want[i][what]);
            }
        }
        x.crash(0, 0);
        x.open();
        due.told(x, 6, 5, 8, 51);
        due.is("check()", x.check(), 1);
    }
}
