public final class TermsKeysTest {
    public static void main(String[] args) {
        Due due = new Due("Terms: keys and values");
        everyKey(due);
        noOtherKey(due);
        everyLength(due);
        everyByte(due);
        tape(due);
        due.end();
    }

    private static void everyKey(Due due) {
        due.sentence("KEYS are 0 .. 119");
        TrailStore x = new TrailStore(4096);
        for (int key = 0; key < 120; key++) {
            due.is("put(" + key + ")", x.put(key), 1);
        }
        due.told(x, 8, 120);
        for (int key = 0; key < 120; key++) {
            due.is("get(" + key + ")", x.get(key), 0);
            due.is("next(" + key + ")", x.next(key), key);
        }
        for (int key = 0; key < 120; key += 17) {
            due.is("entry(" + key + ", 1)", x.entry(key, 1), key + 1);
            due.is("remove(" + key + ")", x.remove(key), 1);
        }
        due.is("remove(119)", x.remove(119), 0);
        due.told(x, 8, 112);
    }

    private static void noOtherKey(Due due) {
        due.sentence("when there is no such key");
        TrailStore x = new TrailStore(600);
        for (int key : new int[] {-1, 120}) {
            due.none("put(" + key + ")", x.put(key));
            due.none("remove(" + key + ")", x.remove(key));
            due.none("get(" + key + ")", x.get(key));
            due.none("entry(" + key + ", 0)", x.entry(key, 0));
            x.begin();
            due.none("put(" + key + ") in a batch", x.put(key));
            due.none("remove(" + key + ") in a batch", x.remove(key));
            due.is("cancel()", x.cancel(), 0);
        }
        due.told(x, 0, 0, 7, 0);
    }

    private static void everyLength(Due due) {
        due.sentence("VALUES rows of 0 .. 64 bytes");
        for (int length = 0; length <= 64; length++) {
            TrailStore x = new TrailStore(600);
            Due.put(x, 7, length, 100 + length);
            due.is("byte 2 of the record", x.cell(0, 2), length);
            due.told(x, 0, 12 + length, 9, 12 + length);
            int[] want = new int[length];
            java.util.Arrays.fill(want, 100 + length);
            due.value(x, 7, want);
            x.crash(3, 0);
            due.is("open()", x.open(), 1);
            due.value(x, 7, want);
        }
    }

    private static void everyByte(Due due) {
        due.sentence("(0 .. 255)");
        for (int from = 0; from < 256; from += 64) {
            TrailStore x = new TrailStore(600);
            for (int i = from; i < from + 64; i++) {
                x.type(i, 1);
            }
            x.put(1);
            x.get(1);
            for (int i = 0; i < 64; i++) {
                due.is("read(" + i + ")", x.read(i), from + i);
                due.is("cell(0, " + (12 + i) + ")", x.cell(0, 12 + i), from + i);
            }
        }
    }

    private static void tape(Due due) {
        due.sentence("THE TAPE has at most 64 bytes.");
        TrailStore x = new TrailStore(600);
        for (int i = 1; i <= 64; i++) {
            due.is("type " + i, x.type(i, 1), i);
        }
        due.none("type of a 65th byte", x.type(65L, 1));
        due.told(x, 12, 64);
        due.is("put(1)", x.put(1), 1);
        due.is("get(1)", x.get(1), 64);
        due.is("read(63)", x.read(63), 64);
    }
}
