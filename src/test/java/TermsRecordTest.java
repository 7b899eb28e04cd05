public final class TermsRecordTest {
    public static void main(String[] args) {
        Due due = new Due("Terms: records and the log's room");
        kinds(due);
        keyAndLength(due);
        numbers(due);
        append(due);
        withoutValue(due);
        headBehindIt(due);
        oneBehindTheOther(due);
        room(due);
        freely(due);
        freelyElsewhere(due);
        due.end();
    }

    private static void kinds(Due due) {
        due.sentence("byte 0 the kind: 1 a value, 2 a removal, 128 more if the batch goes on behind it");
        TrailStore x = new TrailStore(600);
        x.put(1);
        x.remove(1);
        due.is("a value", x.cell(0, 0), 1);
        due.is("a removal", x.cell(0, 12), 2);
        x.begin();
        x.put(2);
        x.remove(1);
        x.put(3);
        x.commit();
        due.is("a value in a batch", x.cell(0, 24), 129);
        due.is("a removal in a batch", x.cell(0, 36), 130);
        due.is("a value at its end", x.cell(0, 48), 1);
        x.begin();
        x.put(4);
        x.remove(3);
        x.commit();
        due.is("a value in a batch", x.cell(0, 60), 129);
        due.is("a removal at its end", x.cell(0, 72), 2);
        x.begin();
        x.put(5);
        x.commit();
        due.is("a batch of one value", x.cell(0, 84), 1);
        x.begin();
        x.remove(5);
        x.commit();
        due.is("a batch of one removal", x.cell(0, 96), 2);
    }

    private static void keyAndLength(Due due) {
        due.sentence("byte 1 the key, byte 2 how many bytes the value has, byte 3 0");
        TrailStore x = new TrailStore(600);
        x.put(0);
        Due.put(x, 119, 64, 255);
        x.remove(119);
        due.cells(x, 0, 0, 1, 0, 0, 0);
        due.cells(x, 0, 12, 1, 119, 64, 0);
        due.cells(x, 0, 88, 2, 119, 0, 0);
    }

    private static void numbers(Due due) {
        due.sentence("then its NUMBER (records are numbered on and on from 1); then the number once more; then the value");
        TrailStore x = new TrailStore(600);
        Due.put(x, 7, 2, 255);
        x.begin();
        x.put(1);
        x.put(2);
        x.commit();
        due.cells(x, 0, 4, 0, 0, 0, 1, 0, 0, 0, 1, 255, 255);
        due.cells(x, 0, 18, 0, 0, 0, 2, 0, 0, 0, 2);
        due.cells(x, 0, 30, 0, 0, 0, 3, 0, 0, 0, 3);
        due.told(x, 3, 4);
        x.checkpoint();
        x.collect(1);
        due.cells(x, 0, 42, 0, 0, 0, 4, 0, 0, 0, 4, 255, 255);
        x.crash(0, 0);
        x.open();
        x.put(7);
        due.cells(x, 0, 56, 0, 0, 0, 5, 0, 0, 0, 5);
    }

    /** In the second round of the log each of the three writes covers bytes that are not 0. */
    private static void append(Due due) {
        due.sentence("To APPEND one: a write of 12 zeros behind where it will end, a write of its value behind where "
                + "its 12 bytes will be (if it has one), a write of the 12 bytes at HEAD");
        for (int keep = 0; keep <= 3; keep++) {
            TrailStore x = new TrailStore(512);
            Due.moveTo(x, 540);
            due.is("told(7)", x.told(7), 0);
            Due.put(x, 2, 9, 99);
            due.told(x, 7, 3);
            x.crash(keep, 0);
            // 12 bytes at 28, the value at 40, zeros at 49
            due.is("the 12 bytes", x.cell(0, 28), keep >= 3 ? 1 : 0);
            due.is("the byte before the value", x.cell(0, 39) > 0 ? 1 : 0, keep >= 3 ? 1 : 0);
            due.is("the value", x.cell(0, 40), keep >= 2 ? 99 : 50);
            due.is("its last byte", x.cell(0, 48), keep >= 2 ? 99 : 50);
            due.is("the zeros", x.cell(0, 49), keep >= 1 ? 0 : 50);
            due.is("the last of them", x.cell(0, 60), keep >= 1 ? 0 : 50);
            due.is("the byte behind them", x.cell(0, 61), 50);
        }
    }

    private static void withoutValue(Due due) {
        due.sentence("(if it has one)");
        TrailStore x = new TrailStore(600);
        x.put(1);
        due.told(x, 7, 2);
        x.remove(1);
        due.told(x, 7, 4);
        Due.put(x, 1, 1, 0);
        due.told(x, 7, 7);
        for (int n = 7; n <= 9; n++) {
            TrailStore y = new TrailStore(600);
            Due.put(y, 1, 1, 5);
            y.put(2);
            y.fail(n, 100, 0);
            // a table, the root, three writes for the record of one byte, and two for the other: nine
            due.down("collect(1000)", y.collect(1000));
            due.is("open()", y.open(), n == 9 ? 2 : 1);
        }
    }

    private static void headBehindIt(Due due) {
        due.sentence("then HEAD is behind it");
        TrailStore x = new TrailStore(600);
        x.put(1);
        due.told(x, 0, 12);
        Due.put(x, 1, 64, 1);
        due.told(x, 0, 88);
        x.remove(1);
        due.told(x, 0, 100);
        x.begin();
        Due.put(x, 1, 1, 1);
        Due.put(x, 1, 2, 1);
        due.told(x, 0, 100);
        x.commit();
        due.told(x, 0, 127);
    }

    private static void oneBehindTheOther(Due due) {
        due.sentence("RECORDS lie in the log one behind the other from TAIL to HEAD");
        TrailStore x = new TrailStore(600);
        Due.put(x, 1, 3, 1);
        Due.put(x, 2, 64, 1);
        x.remove(1);
        due.is("where key 2 is", x.entry(2, 2), 15);
        due.is("where key 1 is", x.entry(1, 2), 91);
        due.is("collect(1)", x.collect(1), 1);
        due.told(x, 0, 103, 1, 15);
        due.is("collect(1)", x.collect(1), 1);
        due.told(x, 0, 179, 1, 91);
        due.is("collect(1)", x.collect(1), 1);
        due.told(x, 0, 179, 1, 103);
    }

    /** HEAD is 324; 76, 60 and 40 bytes more, and 12, are 512. */
    private static void room(Due due) {
        due.sentence("There is ROOM for some records if HEAD, their sizes, and 12, less TAIL, are not more than ROOM");
        for (int length = 27; length <= 29; length++) {
            for (int from = 0; from <= 600; from += 300) {
                TrailStore x = new TrailStore(512);
                Due.moveTo(x, from);
                int[] lengths = {64, 48, length, 64, 88 - length};
                for (int key = 0; key < 5; key++) {
                    Due.put(x, 10 + key, lengths[key], 1);
                }
                due.told(x, 0, from + 324, 1, from);
                int looked = length <= 28 ? 3 : 2;
                due.is("collect(1000) with a third of " + length + " bytes", x.collect(1000), looked);
                due.told(x, 0, from + (looked == 3 ? 472 + length : 460), 1, from + (looked == 3 ? 148 + length : 136));
                due.told(x, 5, looked, 8, 5);
                due.is("check()", x.check(), 1);
            }
        }
    }

    private static void freely(Due due) {
        due.sentence("FREELY if not more than ROOM less 176");
        for (int length = 7; length <= 9; length++) {
            TrailStore x = new TrailStore(512);
            for (int key = 0; key < 4; key++) {
                Due.put(x, key, 64, key + 1);
            }
            // 304 bytes, and 12: 20 are free
            due.is("put of " + (12 + length) + " bytes", Due.put(x, 4, length, 5), length <= 8 ? 1 : TrailStore.FULL);
            due.told(x, 4, length <= 8 ? 0 : 4, 1, length <= 8 ? 0 : 304);
        }
    }

    /** Of 700 bytes 512 are free; six records of 76 leave 56. */
    private static void freelyElsewhere(Due due) {
        due.sentence("HEAD, their sizes, and 12, less TAIL");
        for (int length = 43; length <= 45; length++) {
            TrailStore x = new TrailStore(700);
            Due.moveTo(x, 1000);
            int version = x.told(4);
            for (int key = 0; key < 6; key++) {
                Due.put(x, 50 + key, 64, key + 1);
            }
            due.told(x, 0, 1456, 1, 1000, 4, version);
            boolean fits = length <= 44;
            due.is("put of " + length + " bytes", Due.put(x, 60, length, 5), fits ? 1 : TrailStore.FULL);
            due.is("whether there was a pass", x.told(4) > version ? 1 : 0, fits ? 0 : 1);
            due.told(x, 8, fits ? 7 : 6);
        }
    }
}
