import java.util.Arrays;

public final class TermsPowerTest {
    public static void main(String[] args) {
        Due due = new Due("Terms: power fails");
        keep(due);
        cut(due);
        allOthersAreNot(due);
        coveredTwice(due);
        cutRoundTheEnd(due);
        lastWrite(due);
        countsAllThatAreNotLasting(due);
        endsWithDown(due);
        doesNothingMore(due);
        memoryIsGone(due);
        tapeIsGone(due);
        batchIsGone(due);
        failIsGone(due);
        due.end();
    }

    /** Three puts of 13 bytes over zeros: of each its 12 zeros, its value, its 12 bytes. */
    private static TrailStore nineWrites() {
        TrailStore x = new TrailStore(600);
        for (int i = 0; i < 3; i++) {
            Due.put(x, i, 1, 200 + i);
        }
        return x;
    }

    private static void keep(Due due) {
        due.sentence("of the writes that are not lasting, in their order, the first KEEP are on the disk");
        for (int keep = 0; keep <= 11; keep++) {
            TrailStore x = nineWrites();
            due.is("crash(" + keep + ", 0)", x.crash(keep, 0), 9);
            for (int i = 0; i < 3; i++) {
                due.is("value " + i, x.cell(0, 13 * i + 12), keep >= 3 * i + 2 ? 200 + i : 0);
                due.is("kind " + i, x.cell(0, 13 * i), keep >= 3 * i + 3 ? 1 : 0);
            }
            due.is("open()", x.open(), Math.min(keep / 3, 3));
        }
    }

    private static void cut(Due due) {
        due.sentence("of the next one its first CUT bytes");
        int[] header = {1, 5, 3, 0, 0, 0, 0, 1, 0, 0, 0, 1};
        for (int keep = 0; keep <= 3; keep++) {
            for (int cut : new int[] {0, 1, 2, 3, 4, 11, 12, 13, 1000, Integer.MAX_VALUE}) {
                TrailStore x = new TrailStore(600);
                x.type(0x010203L, 3);
                x.put(5);
                x.crash(keep, cut);
                for (int i = 0; i < 12; i++) {
                    boolean there = keep > 2 || keep == 2 && i < cut;
                    due.is("header byte " + i, x.cell(0, i), there ? header[i] : 0);
                }
                for (int i = 0; i < 3; i++) {
                    boolean there = keep > 1 || keep == 1 && i < cut;
                    due.is("value byte " + i, x.cell(0, 12 + i), there ? i + 1 : 0);
                }
                due.is("open()", x.open(), keep > 2 || keep == 2 && cut >= 12 ? 1 : 0);
            }
        }
    }

    /** In the second round the writes cover other bytes than zeros: those are read again. */
    private static void allOthersAreNot(Due due) {
        due.sentence("all others are not");
        for (int keep = 0; keep <= 3; keep++) {
            TrailStore x = new TrailStore(512);
            Due.moveTo(x, 540);
            int[] before = new int[45];
            for (int i = 0; i < 45; i++) {
                before[i] = x.cell(0, 28 + i);
            }
            due.is("a byte of the first value", before[30], 50);
            int number = x.told(3);
            Due.put(x, 2, 20, 99);
            due.is("crash(" + keep + ", 0)", x.crash(keep, 0), 3);
            int[] want = before.clone();
            lay(want, 32, new int[12], keep > 0 ? 12 : 0);
            lay(want, 12, filled(20, 99), keep > 1 ? 20 : 0);
            lay(want, 0, new int[] {1, 2, 20, 0, 0, 0, 0, number, 0, 0, 0, number}, keep > 2 ? 12 : 0);
            due.cells(x, 0, 28, want);
        }
    }

    /** The zeros behind a record are covered by the next record's header and value. */
    private static void coveredTwice(Due due) {
        due.sentence("of the writes that are not lasting, in their order");
        for (int keep = 0; keep <= 6; keep++) {
            TrailStore x = new TrailStore(512);
            Due.moveTo(x, 540);
            Due.put(x, 2, 1, 99);
            Due.put(x, 3, 1, 98);
            due.is("crash(" + keep + ", 0)", x.crash(keep, 0), 6);
            // the value of the first lies at 40, the header of the second at 41, its value at 53, its zeros at 54
            due.is("the first value", x.cell(0, 40), keep >= 2 ? 99 : 50);
            due.is("the second kind", x.cell(0, 41), keep >= 6 ? 1 : keep >= 1 ? 0 : 50);
            due.is("the second key", x.cell(0, 42), keep >= 6 ? 3 : keep >= 1 ? 0 : 50);
            due.is("the second value", x.cell(0, 53), keep >= 5 ? 98 : 50);
            due.is("the byte behind", x.cell(0, 54), keep >= 4 ? 0 : 50);
            due.is("the last of the zeros", x.cell(0, 65), keep >= 4 ? 0 : 50);
            due.is("the byte behind the zeros", x.cell(0, 66), 50);
        }
    }

    private static void cutRoundTheEnd(Due due) {
        due.sentence("of the next one its first CUT bytes; all others are not");
        for (int keep = 0; keep < 3; keep++) {
            for (int cut = 0; cut <= 41; cut++) {
                cutRoundTheEnd(due, keep, cut);
            }
        }
    }

    /** 12 zeros at 541, the value of 40 bytes at 501, 29 of them behind the log's end, the header at 489. */
    private static void cutRoundTheEnd(Due due, int keep, int cut) {
        TrailStore x = new TrailStore(512);
        Due.moveTo(x, 489);
        int[] want = new int[64];
        for (int i = 0; i < 64; i++) {
            want[i] = x.cell(0, (489 + i) % 512);
        }
        Due.put(x, 2, 40, 99);
        due.log(x, 512, 511, 99, 99);
        due.log(x, 512, 540, 99, 0);
        int number = x.entry(2, 1);
        due.is("crash(" + keep + ", " + cut + ")", x.crash(keep, cut), 3);
        lay(want, 52, new int[12], keep > 0 ? 12 : cut);
        lay(want, 12, filled(40, 99), keep > 1 ? 40 : keep == 1 ? cut : 0);
        lay(want, 0, new int[] {1, 2, 40, 0, 0, 0, 0, number, 0, 0, 0, number}, keep == 2 ? cut : 0);
        due.log(x, 512, 489, want);
        boolean whole = keep == 2 && cut >= 12;
        due.is("open()", x.open(), whole ? 1 : 0);
        due.told(x, 0, whole ? 541 : 489, 8, whole ? 1 : 0);
    }

    private static void lay(int[] row, int at, int[] bytes, int most) {
        for (int i = 0; i < bytes.length && i < most; i++) {
            row[at + i] = bytes[i];
        }
    }

    private static int[] filled(int length, int fill) {
        int[] row = new int[length];
        Arrays.fill(row, fill);
        return row;
    }

    private static void lastWrite(Due due) {
        due.sentence("or at the write for which it was told (fail()), which is the last one then");
        for (int n = 1; n <= 3; n++) {
            for (int keep = 0; keep <= 4; keep++) {
                TrailStore x = new TrailStore(600);
                x.fail(n, keep, 0);
                due.down("put(5)", Due.put(x, 5, 2, 77));
                due.is("the value", x.cell(0, 13), n >= 2 && keep >= 2 ? 77 : 0);
                due.is("the kind", x.cell(0, 0), n == 3 && keep >= 3 ? 1 : 0);
            }
        }
        for (int cut = 0; cut <= 13; cut++) {
            TrailStore x = new TrailStore(600);
            x.fail(3, 2, cut);
            due.down("put(5)", Due.put(x, 5, 2, 77));
            due.is("the kind", x.cell(0, 0), cut >= 1 ? 1 : 0);
            due.is("the last byte of the header", x.cell(0, 11), cut >= 12 ? 1 : 0);
            due.is("open()", x.open(), cut >= 12 ? 1 : 0);
        }
    }

    private static void countsAllThatAreNotLasting(Due due) {
        due.sentence("of the writes that are not lasting");
        TrailStore x = new TrailStore(600);
        x.put(1);
        x.put(2);
        x.fail(2, 2, 5);
        due.down("put(3)", x.put(3));
        due.is("open(), with the writes before fail()", x.open(), 1);
        x.put(2);
        x.sync();
        x.fail(2, 2, 0);
        due.down("put(3)", x.put(3));
        due.is("open(), without what was lasting", x.open(), 3);
        // a checkpoint's first sync makes the put lasting, so that the table is the first of the others
        x.put(4);
        x.fail(1, 0, 20);
        due.down("checkpoint()", x.checkpoint());
        due.cells(x, 1, 0, 84, 0, 4, 0, 0, 0, 0, 1);
        due.cells(x, 1, 16, 1, 1, 0, 0, 0);
        due.is("open()", x.open(), 4);
    }

    private static void endsWithDown(Due due) {
        due.sentence("the call under way ends with DOWN");
        TrailStore x = new TrailStore(600);
        x.fail(1, 0, 0);
        due.down("put(1)", x.put(1));
        x.open();
        x.put(1);
        x.fail(1, 0, 0);
        due.down("remove(1)", x.remove(1));
        x.open();
        x.begin();
        x.put(1);
        x.fail(1, 0, 0);
        due.down("commit()", x.commit());
        x.open();
        x.fail(1, 0, 0);
        due.down("checkpoint()", x.checkpoint());
        x.open();
        x.put(1);
        x.fail(1, 0, 0);
        due.down("collect(1)", x.collect(1));
        due.down("told(0)", x.told(0));
    }

    /** The put needs a pass; whichever write the power fails at, nothing comes behind it. */
    private static void doesNothingMore(Due due) {
        due.sentence("and does nothing more");
        // a checkpoint; keys 1 to 5 are moved, the root; a checkpoint; 6, 7, 1 to 4 are moved, the root; the put
        int writes = 4 + 15 + 3 + 4 + 18 + 3 + 3;
        for (int n = 1; n <= writes + 1; n++) {
            TrailStore x = new TrailStore(512);
            for (int key = 0; key < 8; key++) {
                Due.put(x, key, 24, key);
            }
            x.remove(0);
            x.fail(n, 1000, 0);
            due.is("put failing at " + n, Due.put(x, 0, 24, 70), n <= writes ? TrailStore.DOWN : 1);
            if (n <= writes) {
                x.open();
            }
            due.is("whether it is there", x.get(0), n >= writes ? 24 : TrailStore.NONE);
            due.told(x, 4, n < 4 ? 0 : n < 22 ? 1 : n < 26 ? 2 : n < 47 ? 3 : 4);
            due.told(x, 1, n < 22 ? 0 : n < 47 ? 216 : 444);
            for (int key = 1; key < 8; key++) {
                due.is("get(" + key + ")", x.get(key), 24);
                due.is("read(23)", x.read(23), key);
            }
            due.is("check()", x.check(), 1);
        }
    }

    private static void memoryIsGone(Due due) {
        due.sentence("memory, tape, batch, and what was told by fail(), are gone");
        TrailStore x = new TrailStore(600);
        x.put(1);
        x.sync();
        x.put(2);
        x.crash(0, 0);
        x.open();
        due.told(x, 5, 1, 8, 1);
        due.none("entry(2, 0)", x.entry(2, 0));
        x.put(2);
        x.fail(1, 0, 0);
        x.put(3);
        x.open();
        due.told(x, 5, 1, 8, 1);
        due.none("get(2)", x.get(2));
    }

    private static void tapeIsGone(Due due) {
        due.sentence("memory, tape");
        TrailStore x = new TrailStore(600);
        x.type(1L, 5);
        x.crash(0, 0);
        x.open();
        due.told(x, 12, 0);
        x.put(4);
        due.value(x, 4);
        x.type(1L, 5);
        x.fail(1, 9, 9);
        x.remove(4);
        x.open();
        due.told(x, 12, 0);
    }

    private static void batchIsGone(Due due) {
        due.sentence("memory, tape, batch");
        TrailStore x = new TrailStore(600);
        x.begin();
        x.put(1);
        x.crash(0, 0);
        x.open();
        due.told(x, 13, -1);
        due.is("put(2), which is written at once", x.put(2), 1);
        due.told(x, 0, 12, 8, 1);
        x.begin();
        x.put(3);
        x.fail(1, 9, 9);
        x.checkpoint();
        x.open();
        due.told(x, 13, -1);
        due.none("commit()", x.commit());
    }

    private static void failIsGone(Due due) {
        due.sentence("and what was told by fail(), are gone");
        TrailStore x = new TrailStore(600);
        x.fail(5, 0, 0);
        x.crash(0, 0);
        x.open();
        due.is("spare()", x.spare(), 0);
        for (int i = 0; i < 5; i++) {
            due.is("put(" + i + ")", x.put(i), 1);
        }
        x.fail(1, 0, 0);
        x.put(5);
        x.open();
        due.is("put(6)", x.put(6), 1);
        due.is("spare()", x.spare(), 0);
    }
}
