/** Some of it no run of calls leads to: there bytes of the disk are changed while the store is down. */
public final class TermsOpeningTest {
    public static void main(String[] args) {
        Due due = new Due("Terms: opening");
        greaterVersion(due);
        sameAtSixty(due);
        versionNotZero(due);
        withoutOne(due);
        withoutOneAndRecords(due);
        headIsCheckpoint(due);
        kind(due);
        key(due);
        length(due);
        byteThree(due);
        nextNumberTwice(due);
        cutNumber(due);
        notBeyondRoom(due);
        batchAtItsEnd(due);
        batchWithoutEnd(due);
        numbersComeAgain(due);
        moreThan24(due);
        zerosAtHead(due);
        due.end();
    }

    private static void greaterVersion(Due due) {
        due.sentence("of the roots whose version is not 0 and the same at 60 that with the greater version");
        TrailStore x = new TrailStore(600);
        for (int version = 1; version <= 4; version++) {
            Due.round(x, version, 1);
            x.crash(0, 0);
            due.is("open()", x.open(), 0);
            due.told(x, 2, 12 * version, 4, version, 8, version);
        }
        TrailStore y = new TrailStore(600);
        Due.round(y, 1, 1);
        Due.round(y, 2, 1);
        y.crash(0, 0);
        // version 2, at 0, becomes 256, version 1, at 64, becomes 255
        for (int at : new int[] {2, 62}) {
            Spoil.set(y, 2, at, 1);
            Spoil.set(y, 2, at + 1, 0);
            Spoil.set(y, 2, at + 65, 255);
        }
        y.open();
        due.told(y, 2, 24, 4, 256);
    }

    private static void sameAtSixty(Due due) {
        due.sentence("and the same at 60");
        for (int at : new int[] {0, 1, 2, 3, 60, 61, 62, 63}) {
            TrailStore x = new TrailStore(600);
            Due.round(x, 1, 1);
            Due.round(x, 2, 1);
            x.crash(0, 0);
            Spoil.set(x, 2, at, 7);
            due.is("open() with 7 at " + at, x.open(), 1);
            due.told(x, 2, 12, 3, 3, 4, 1, 5, 1, 6, 1, 8, 2, 14, 2);
            due.is("check()", x.check(), 1);
        }
    }

    /** Root 0 tells of a checkpoint, but its version is 0, at 60 too. */
    private static void versionNotZero(Due due) {
        due.sentence("whose version is not 0");
        TrailStore x = new TrailStore(600);
        x.put(1);
        x.crash(9, 0);
        Spoil.set(x, 2, 7, 12);
        Spoil.set(x, 2, 15, 2);
        Spoil.set(x, 2, 19, 9);
        due.is("open()", x.open(), 1);
        due.told(x, 0, 12, 2, 0, 3, 2, 4, 0, 14, 1);
    }

    private static void withoutOne(Due due) {
        due.sentence("without one version 0, checkpoint and TAIL 0, numbers 1, no tables");
        TrailStore x = new TrailStore(512);
        Due.moveTo(x, 480);
        Due.put(x, 5, 64, 9);
        x.checkpoint();
        x.crash(0, 0);
        Spoil.set(x, 2, 63, 0);
        Spoil.set(x, 2, 127, 0);
        due.is("open(), where the log does not begin with number 1", x.open(), 0);
        due.told(x, 0, 0, 1, 0, 2, 0, 3, 1, 4, 0, 5, 0, 6, 0, 7, 0, 8, 0, 14, 1);
        x.put(6);
        due.entry(x, 6, 1, 1, 0, 1);
        x.checkpoint();
        due.tables(x, new int[] {0, 1, 0, 1, 6, 6});
        due.told(x, 4, 1);
    }

    private static void withoutOneAndRecords(Due due) {
        due.sentence("without one version 0");
        TrailStore x = new TrailStore(600);
        x.put(1);
        x.put(2);
        x.fail(4, 2, 3);
        due.down("checkpoint(), whose root is cut", x.checkpoint());
        due.is("open()", x.open(), 2);
        due.told(x, 0, 24, 1, 0, 2, 0, 3, 3, 4, 0, 5, 2, 6, 0, 14, 1);
        due.is("check()", x.check(), 1);
    }

    private static void headIsCheckpoint(Due due) {
        due.sentence("HEAD is the checkpoint, memory empty.");
        TrailStore x = new TrailStore(600);
        Due.put(x, 1, 5, 1);
        x.checkpoint();
        x.put(2);
        x.crash(0, 0);
        due.is("open()", x.open(), 0);
        due.told(x, 0, 17, 2, 17, 3, 2, 5, 0, 8, 1);
        x.put(2);
        x.crash(2, 0);
        due.is("open()", x.open(), 1);
        due.told(x, 0, 29, 2, 17, 3, 3, 5, 1, 8, 2);
    }

    /** Key 7's record at 0, key 8's, of 2 bytes, at 12, the removal of key 7 at 26; HEAD is 38. */
    private static TrailStore threeRecords() {
        TrailStore x = new TrailStore(600);
        x.put(7);
        Due.put(x, 8, 2, 99);
        x.remove(7);
        x.crash(99, 0);
        return x;
    }

    private static void opened(Due due, int at, int value, int records) {
        TrailStore x = threeRecords();
        Spoil.set(x, 0, at, value);
        due.is("open() with " + value + " at " + at, x.open(), records);
        int[] heads = {0, 12, 26, 38};
        due.told(x, 0, heads[records], 3, records + 1);
        due.log(x, 600, heads[records], 0, 0, 0, 0, 0, 0, 0, 0, 0, 0, 0, 0);
    }

    private static void kind(Due due) {
        due.sentence("(kind 1 or 2, or 128 more");
        for (int wrong : new int[] {0, 3, 4, 64, 65, 66, 127, 128, 131, 132, 193, 255}) {
            opened(due, 12, wrong, 1);
        }
        // a removal has no value, and one that goes on needs another behind it
        opened(due, 12, 2, 1);
        opened(due, 12, 1, 3);
        opened(due, 12, 129, 3);
        opened(due, 26, 1, 3);
        opened(due, 26, 2, 3);
        opened(due, 26, 129, 2);
        opened(due, 26, 130, 2);
    }

    private static void key(Due due) {
        due.sentence("a key; a length");
        for (int wrong : new int[] {120, 121, 128, 255}) {
            opened(due, 13, wrong, 1);
        }
        opened(due, 13, 119, 3);
        opened(due, 13, 0, 3);
    }

    private static void length(Due due) {
        due.sentence("a length, 0 for a removal");
        for (int wrong : new int[] {65, 66, 128, 255}) {
            opened(due, 14, wrong, 1);
        }
        for (int wrong : new int[] {1, 2, 64, 65}) {
            opened(due, 28, wrong, 2);
        }
        TrailStore x = threeRecords();
        Spoil.set(x, 0, 14, 64);
        due.is("open() with a length of 64", x.open(), 2);
        due.told(x, 0, 88, 3, 3);
        due.is("get(8)", x.get(8), 64);
        TrailStore y = threeRecords();
        Spoil.set(y, 0, 26, 1);
        Spoil.set(y, 0, 28, 64);
        due.is("open() with a value of 64 at the end", y.open(), 3);
        due.told(y, 0, 102, 3, 4);
    }

    private static void byteThree(Due due) {
        due.sentence("0; the next number, twice");
        for (int wrong : new int[] {1, 128, 255}) {
            opened(due, 15, wrong, 1);
            opened(due, 3, wrong, 0);
        }
    }

    private static void nextNumberTwice(Due due) {
        due.sentence("the next number, twice)");
        for (int at = 16; at < 24; at++) {
            opened(due, at, 5, 1);
        }
        opened(due, 19, 1, 1);
        opened(due, 19, 3, 1);
        opened(due, 23, 1, 1);
        opened(due, 23, 3, 1);
        // the same number twice, but not the next one
        for (int number : new int[] {0, 1, 3}) {
            TrailStore x = threeRecords();
            Spoil.set(x, 0, 19, number);
            Spoil.set(x, 0, 23, number);
            due.is("open() with number " + number, x.open(), 1);
        }
    }

    /** 256 is 0, 0, 1, 0: the last byte of its record's 12 does not need to be written; 255's does. */
    private static void cutNumber(Due due) {
        due.sentence("as long as at HEAD there are 12 bytes of a record");
        for (int number = 255; number <= 257; number++) {
            for (int cut = 10; cut <= 12; cut++) {
                TrailStore x = new TrailStore(4096);
                Due.putAll(x, 0, 24);
                for (int i = 0; i < 9; i++) {
                    x.collect(1000);
                }
                for (int i = 241; i < number; i++) {
                    x.put(0);
                }
                x.sync();
                due.told(x, 3, number);
                x.put(1);
                x.crash(1, cut);
                int before = 24 + number - 241;
                due.is("open()", x.open(), cut == 12 || number == 256 && cut == 11 ? before + 1 : before);
            }
        }
    }

    /** Three records are moved to end where 12 bytes are left before TAIL and ROOM; the root that moves TAIL is lost. */
    private static void notBeyondRoom(Due due) {
        due.sentence("which ends not beyond TAIL and ROOM less 12");
        for (int from = 0; from <= 600; from += 300) {
            for (int length = 27; length <= 29; length++) {
                TrailStore x = new TrailStore(512);
                Due.moveTo(x, from);
                int version = x.told(4);
                int[] lengths = {64, 48, 28, 64, 60};
                for (int key = 0; key < 5; key++) {
                    Due.put(x, 10 + key, lengths[key], key);
                }
                x.checkpoint();
                x.fail(10, 0, 0);
                due.down("collect(1000)", x.collect(1000));
                Spoil.set(x, 0, (from + 460 + 2) % 512, length);
                due.is("open() with a third of " + length + " bytes", x.open(), length <= 28 ? 3 : 2);
                due.told(x, 0, from + (length <= 28 ? 472 + length : 460), 1, from, 2, from + 324, 4, version + 1);
                if (length == 28) {
                    due.is("check()", x.check(), 1);
                    due.is("collect(1000)", x.collect(1000), 3);
                    due.told(x, 0, from + 500, 1, from + 176);
                }
            }
        }
    }

    private static void batchAtItsEnd(Due due) {
        due.sentence("it comes to HEAD's end and, when a batch is at its end, all of it to memory");
        for (int count = 1; count <= 8; count++) {
            TrailStore x = new TrailStore(600);
            x.put(100);
            x.begin();
            for (int i = 0; i < count; i++) {
                Due.put(x, i, i, i);
            }
            x.commit();
            x.sync();
            x.crash(0, 0);
            due.is("open() with a batch of " + count, x.open(), 1 + count);
            int head = 12 + 12 * count + count * (count - 1) / 2;
            due.told(x, 0, head, 3, 2 + count, 5, 1 + count, 8, 1 + count);
            due.is("get of the last", x.get(count - 1), count - 1);
        }
    }

    /** Of a batch of 8, 16 writes, the last one is lost, or all but some. */
    private static void batchWithoutEnd(Due due) {
        due.sentence("what is left of a batch without an end does not count (HEAD is before it, the next number its "
                + "first one's)");
        for (int keep = 2; keep <= 18; keep++) {
            TrailStore x = new TrailStore(600);
            x.put(9);
            x.begin();
            Due.putAll(x, 0, 8);
            x.commit();
            due.is("crash(" + keep + ", 11)", x.crash(keep, 11), 18);
            int records = keep == 18 ? 9 : 1;
            due.is("open()", x.open(), records);
            due.told(x, 0, 12 * records, 3, 1 + records, 5, records, 8, records);
            x.put(50);
            due.entry(x, 50, 1, 1 + records, 12 * records, 1);
            x.crash(9, 9);
            due.is("open()", x.open(), 1 + records);
            due.told(x, 8, 1 + records);
        }
        TrailStore x = new TrailStore(600);
        x.put(9);
        x.begin();
        Due.putAll(x, 0, 3);
        x.commit();
        x.crash(99, 0);
        Spoil.set(x, 0, 36, 129);
        due.is("open() with a batch that goes on", x.open(), 1);
        due.told(x, 0, 12, 3, 2, 8, 1);
    }

    /** Records of a lost batch lie behind HEAD with numbers that come again: the zeros keep them off. */
    private static void numbersComeAgain(Due due) {
        due.sentence("(HEAD is before it, the next number its first one's)");
        TrailStore x = new TrailStore(600);
        x.begin();
        Due.putAll(x, 0, 8);
        x.commit();
        x.crash(14, 0);
        due.is("open()", x.open(), 0);
        due.is("the second record, which stays", x.cell(0, 12), 129);
        for (int i = 1; i <= 7; i++) {
            x.put(100);
            x.crash(99, 0);
            due.is("open() behind put " + i, x.open(), i);
            due.told(x, 0, 12 * i, 3, i + 1, 8, 1);
        }
    }

    /** The root of the checkpoint behind 24 keys is spoilt, so that all records come from the log. */
    private static void moreThan24(Due due) {
        due.sentence("When memory would have more than 24 entries, it has them.");
        for (int keys : new int[] {25, 30, 48}) {
            TrailStore x = new TrailStore(4096);
            Due.putAll(x, 0, keys);
            due.told(x, 4, 1, 5, keys - 24);
            x.crash(99, 0);
            Spoil.set(x, 2, 127, 0);
            due.is("open()", x.open(), keys);
            due.told(x, 0, 12 * keys, 2, 0, 4, 0, 5, keys, 6, 0, 8, keys);
            due.entry(x, keys - 1, 1, keys, 12 * keys - 12, 1);
            due.is("check()", x.check(), 1);
            // memory would have more than 24 by it, though it has the key
            due.is("put(0)", x.put(0), 1);
            due.told(x, 2, 12 * keys, 4, 1, 5, 1, 6, 1);
            due.is("entries of the table", x.table(0, 1), keys);
            due.is("check()", x.check(), 1);
        }
        TrailStore x = new TrailStore(4096);
        Due.putAll(x, 0, 30);
        x.crash(99, 0);
        Spoil.set(x, 2, 127, 0);
        x.open();
        due.is("collect(1000)", x.collect(1000), 24);
        due.told(x, 1, 288, 2, 360, 4, 2, 5, 24, 8, 30);
        due.is("entries of the table", x.table(0, 1), 30);
    }

    private static void zerosAtHead(Due due) {
        due.sentence("Then a write of 12 zeros at HEAD, a sync.");
        TrailStore x = new TrailStore(600);
        Due.put(x, 1, 20, 7);
        x.crash(2, 11);
        due.is("the cut header", x.cell(0, 0), 1);
        due.is("open()", x.open(), 0);
        due.cells(x, 0, 0, 0, 0, 0, 0, 0, 0, 0, 0, 0, 0, 0, 0, 7, 7);
        due.told(x, 7, 0);
        due.is("crash(0, 0)", x.crash(0, 0), 0);
        due.cells(x, 0, 0, 0, 0, 0, 0, 0, 0, 0, 0, 0, 0, 0, 0, 7, 7);
        TrailStore y = new TrailStore(600);
        Due.put(y, 1, 3, 7);
        y.sync();
        Due.put(y, 2, 20, 8);
        y.crash(2, 11);
        due.is("open()", y.open(), 1);
        due.cells(y, 0, 14, 7, 0, 0, 0, 0, 0, 0, 0, 0, 0, 0, 0, 0, 8);
    }
}
