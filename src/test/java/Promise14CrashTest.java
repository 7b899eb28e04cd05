import java.util.Arrays;

public final class Promise14CrashTest {
    public static void main(String[] args) {
        Due due = new Due("promise 14, crash");
        wrongNumbers(due);
        firstWrites(due);
        beginnings(due);
        whatIsGone(due);
        roundTheEnd(due);
        due.end();
    }

    private static void wrongNumbers(Due due) {
        TrailStore x = new TrailStore(600);
        x.put(1);
        due.is("crash(-1, 0)", x.crash(-1, 0), TrailStore.NONE);
        due.is("crash(0, -1)", x.crash(0, -1), TrailStore.NONE);
        due.is("crash of the least numbers", x.crash(Integer.MIN_VALUE, Integer.MIN_VALUE), TrailStore.NONE);
        due.told(x, 5, 1, 7, 2);
        due.is("crash of the greatest numbers", x.crash(Integer.MAX_VALUE, Integer.MAX_VALUE), 2);
        due.is("crash(0, 0) down", x.crash(0, 0), TrailStore.DOWN);
        due.is("crash(-1, 0) down", x.crash(-1, 0), TrailStore.DOWN);
        due.is("open()", x.open(), 1);
        due.is("crash(0, 0) of nothing", x.crash(0, 0), 0);
    }

    private static void firstWrites(Due due) {
        // a put over bytes that are not 0: 12 zeros, 3 bytes, 12 bytes
        for (int keep = 0; keep <= 3; keep++) {
            for (int cut : new int[] {0, 1, 2, 3, 4, 11, 12, 13, 1000}) {
                TrailStore x = new TrailStore(600);
                x.type(0x010203L, 3);
                x.put(5);
                due.is("crash(" + keep + ", " + cut + ")", x.crash(keep, cut), 3);
                int[] header = {1, 5, 3, 0, 0, 0, 0, 1, 0, 0, 0, 1};
                for (int i = 0; i < 12; i++) {
                    boolean there = keep > 2 || keep == 2 && i < cut;
                    due.is("header byte " + i, x.cell(0, i), there ? header[i] : 0);
                }
                for (int i = 0; i < 3; i++) {
                    boolean there = keep > 1 || keep == 1 && i < cut;
                    due.is("value byte " + i, x.cell(0, 12 + i), there ? i + 1 : 0);
                }
                boolean whole = keep > 2 || keep == 2 && cut >= 12;
                due.is("open()", x.open(), whole ? 1 : 0);
                due.cells(x, 0, whole ? 15 : 0, 0, 0, 0, 0, 0, 0, 0, 0, 0, 0, 0, 0);
            }
        }
    }

    /** What was synced is there again, and of what came behind a beginning. */
    private static void beginnings(Due due) {
        for (int keep = 0; keep <= 30; keep++) {
            TrailStore x = new TrailStore(600);
            Due.put(x, 1, 2, 100);
            x.sync();
            for (int i = 0; i < 9; i++) {
                Due.put(x, 1, 1, i);
            }
            due.is("crash(" + keep + ", 0)", x.crash(keep, 0), 27);
            int kept = Math.min(keep / 3, 9);
            due.is("open()", x.open(), 1 + kept);
            if (kept == 0) {
                due.value(x, 1, 100, 100);
            } else {
                due.value(x, 1, kept - 1);
            }
            due.told(x, 0, 14 + 13 * kept, 3, 2 + kept, 7, 0);
            due.is("check()", x.check(), 1);
        }
    }

    private static void whatIsGone(Due due) {
        TrailStore x = new TrailStore(600);
        x.put(3);
        x.sync();
        x.get(3);
        x.type(1L, 5);
        x.begin();
        x.put(1);
        x.type(1L, 5);
        x.fail(7, 0, 0);
        due.is("crash(0, 0)", x.crash(0, 0), 0);
        due.is("told(12) down", x.told(12), TrailStore.DOWN);
        due.is("open()", x.open(), 1);
        due.told(x, 12, 0, 13, -1);
        due.is("spare()", x.spare(), 0);
        due.is("put(4)", x.put(4), 1);
        due.value(x, 4);
    }

    private static void roundTheEnd(Due due) {
        for (int keep = 0; keep < 3; keep++) {
            for (int cut = 0; cut <= 41; cut++) {
                cutRoundTheEnd(due, keep, cut);
            }
        }
    }

    /** A write round the log's end is cut in its midst. */
    private static void cutRoundTheEnd(Due due, int keep, int cut) {
        TrailStore x = new TrailStore(512);
        for (int i = 0; i < 6; i++) {
            Due.put(x, 1, i < 5 ? 64 : 25, 50);
            x.remove(1);
            x.collect(1000);
        }
        due.told(x, 0, 489, 1, 489);
        int[] want = new int[512];
        for (int i = 0; i < 512; i++) {
            want[i] = x.cell(0, i);
        }
        // 12 zeros at 541, the value of 40 bytes at 501, 29 of them behind the end, the header at 489
        Due.put(x, 2, 40, 99);
        due.is("the last byte", x.cell(0, 511), 99);
        due.is("the byte at 28", x.cell(0, 28), 99);
        due.is("the byte at 29", x.cell(0, 29), 0);
        int number = x.entry(2, 1);
        due.is("crash(" + keep + ", " + cut + ")", x.crash(keep, cut), 3);
        lay(want, 541, new int[12], keep > 0 ? 12 : cut);
        int[] value = new int[40];
        Arrays.fill(value, 99);
        lay(want, 501, value, keep > 1 ? 40 : keep == 1 ? cut : 0);
        int[] header = {1, 2, 40, 0, 0, 0, 0, number, 0, 0, 0, number};
        lay(want, 489, header, keep == 2 ? cut : 0);
        due.cells(x, 0, 0, want);
        boolean whole = keep == 2 && cut >= 12;
        due.is("open()", x.open(), whole ? 1 : 0);
        due.told(x, 0, whole ? 541 : 489, 8, whole ? 1 : 0);
    }

    private static void lay(int[] log, int place, int[] bytes, int most) {
        for (int i = 0; i < bytes.length && i < most; i++) {
            log[(place + i) % log.length] = bytes[i];
        }
    }
}
