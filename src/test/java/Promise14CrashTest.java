public final class Promise14CrashTest {
    public static void main(String[] args) {
        Due due = new Due("Promise 14: crash");
        howMany(due);
        belowZero(due);
        largest(due);
        down(due);
        due.end();
    }

    private static void howMany(Due due) {
        due.sentence("The power fails at once: how many writes were not lasting.");
        TrailStore x = new TrailStore(600);
        due.is("crash(0, 0) of nothing", x.crash(0, 0), 0);
        due.down("told(0)", x.told(0));
        x.open();
        Due.put(x, 1, 1, 5);
        due.is("crash(0, 0)", x.crash(0, 0), 3);
        due.is("open()", x.open(), 0);
        Due.put(x, 1, 1, 5);
        x.put(2);
        due.is("crash(5, 0)", x.crash(5, 0), 5);
        due.is("open()", x.open(), 2);
        x.put(3);
        x.sync();
        x.put(4);
        due.is("crash(0, 0) behind a sync", x.crash(0, 0), 2);
        due.is("open()", x.open(), 3);
        x.put(4);
        x.checkpoint();
        due.is("crash(0, 0) behind a checkpoint", x.crash(0, 0), 0);
        due.is("open()", x.open(), 0);
        due.told(x, 8, 4);
    }

    private static void belowZero(Due due) {
        due.sentence("NONE when keep or cut is below 0.");
        TrailStore x = new TrailStore(600);
        x.put(1);
        x.type(1L, 1);
        x.begin();
        int[][] wrong = {{-1, 0}, {0, -1}, {-1, -1}, {5, -1}, {-1, 5}, {Integer.MIN_VALUE, 0}, {0, Integer.MIN_VALUE}};
        for (int[] w : wrong) {
            due.none("crash(" + w[0] + ", " + w[1] + ")", x.crash(w[0], w[1]));
            due.told(x, 0, 12, 5, 1, 7, 2, 12, 1, 13, 0);
        }
        due.is("crash(0, 0)", x.crash(0, 0), 2);
    }

    private static void largest(Due due) {
        due.sentence("the first KEEP are on the disk");
        TrailStore x = new TrailStore(600);
        x.put(1);
        due.is("crash of the greatest numbers", x.crash(Integer.MAX_VALUE, Integer.MAX_VALUE), 2);
        due.is("open()", x.open(), 1);
        x.put(2);
        due.is("crash with the greatest cut", x.crash(1, Integer.MAX_VALUE), 2);
        due.is("open()", x.open(), 2);
    }

    private static void down(Due due) {
        due.sentence("DOWN when it is down.");
        TrailStore x = new TrailStore(600);
        x.put(1);
        x.crash(2, 0);
        int[][] all = {{0, 0}, {1, 1}, {-1, 0}, {0, -1}};
        for (int[] a : all) {
            due.down("crash(" + a[0] + ", " + a[1] + ")", x.crash(a[0], a[1]));
        }
        due.is("open()", x.open(), 1);
    }
}
