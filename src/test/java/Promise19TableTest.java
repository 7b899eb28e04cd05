public final class Promise19TableTest {
    public static void main(String[] args) {
        Due due = new Due("Promise 19: table");
        newestFirst(due);
        five(due);
        otherTables(due);
        otherQuestions(due);
        down(due);
        due.end();
    }

    private static TrailStore two() {
        TrailStore x = new TrailStore(600);
        x.put(7);
        x.put(5);
        x.checkpoint();
        x.put(119);
        x.put(9);
        x.put(64);
        x.checkpoint();
        return x;
    }

    private static void newestFirst(Due due) {
        due.sentence("Of table i in use, from 0 the newest: what = 0 its level, 1 how many entries, 2 its place, "
                + "3 its number, 4 its first key, 5 its last one, 6 its filter.");
        // bits: 5 has 3 and 28, 7 has 17 and 18, 9 has 31 and 8, 64 has 0 and 5, 119 has 1 and 2
        due.tables(two(), new int[] {0, 3, 1, 2, 9, 119, 0x80000127}, new int[] {0, 2, 0, 1, 5, 7, 0x10060008});
        TrailStore x = new TrailStore(600);
        Due.round(x, 0, 1);
        due.tables(x, new int[] {0, 1, 0, 1, 0, 0, 0x21});
    }

    private static void five(Due due) {
        due.sentence("of level 0 at most 3, then at most one of level 1, then at most one of level 2");
        TrailStore x = new TrailStore(4096);
        for (int i = 0; i < 4; i++) {
            Due.round(x, 11 * i, 11);
        }
        for (int i = 0; i < 7; i++) {
            Due.round(x, 60 + i, 1);
        }
        int[][] want = {{0, 1, 2, 14, 66, 66}, {0, 1, 1, 13, 65, 65}, {0, 1, 0, 12, 64, 64}, {1, 4, 4, 11, 60, 63},
            {2, 44, 5, 6, 0, 43}};
        due.tables(x, want);
        due.is("table(5, 1)", x.table(5, 1), 0);
        x.crash(0, 0);
        x.open();
        due.tables(x, want);
    }

    private static void otherTables(Due due) {
        due.sentence("Of table i in use, from 0 the newest");
        TrailStore x = new TrailStore(600);
        x.put(7);
        for (int what = 0; what < 7; what++) {
            due.is("table(0, " + what + ") with memory alone", x.table(0, what), 0);
        }
        x = two();
        for (int i : new int[] {-1, 2, 3, 4, 5, 6, 11, 12, Integer.MIN_VALUE, Integer.MAX_VALUE}) {
            for (int what = -1; what < 8; what++) {
                due.is("table(" + i + ", " + what + ")", x.table(i, what), 0);
            }
        }
    }

    private static void otherQuestions(Due due) {
        due.sentence("0 for others");
        TrailStore x = two();
        for (int what : new int[] {-1, -2, 7, 8, 100, Integer.MIN_VALUE, Integer.MAX_VALUE}) {
            due.is("table(0, " + what + ")", x.table(0, what), 0);
            due.is("table(1, " + what + ")", x.table(1, what), 0);
        }
    }

    private static void down(Due due) {
        due.sentence("0 for others; DOWN.");
        TrailStore x = two();
        x.crash(0, 0);
        int[][] all = {{0, 0}, {1, 6}, {2, 0}, {-1, 0}, {0, 7}, {0, -1}};
        for (int[] a : all) {
            due.down("table(" + a[0] + ", " + a[1] + ")", x.table(a[0], a[1]));
        }
        x.open();
        due.tables(x, new int[] {0, 3, 1, 2, 9, 119, 0x80000127}, new int[] {0, 2, 0, 1, 5, 7, 0x10060008});
    }
}
