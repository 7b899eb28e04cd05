public final class Promise08GetTest {
    public static void main(String[] args) {
        Due due = new Due("Promise 8: get");
        howMany(due);
        roundTheEnd(due);
        goneBefore(due);
        notThere(due);
        noKey(due);
        down(due);
        due.end();
    }

    private static void howMany(Due due) {
        due.sentence("How many bytes the value of a key has, which is read then");
        TrailStore x = new TrailStore(600);
        Due.put(x, 5, 3, 200);
        Due.put(x, 119, 64, 1);
        x.put(0);
        for (int turn = 0; turn < 2; turn++) {
            due.value(x, 5, 200, 200, 200);
            due.is("get(119)", x.get(119), 64);
            due.is("read(63)", x.read(63), 1);
            due.is("get(0), of no bytes", x.get(0), 0);
            x.checkpoint();
        }
        Due.put(x, 5, 1, 4);
        due.value(x, 5, 4);
        x.checkpoint();
        due.value(x, 5, 4);
    }

    /** A value of 64 bytes that begins at each place near the end of the log. */
    private static void roundTheEnd(Due due) {
        due.sentence("byte p being at p mod ROOM");
        for (int place = 512 - 77; place <= 512; place += 7) {
            TrailStore x = new TrailStore(512);
            Due.moveTo(x, place);
            for (int i = 0; i < 8; i++) {
                x.type(0x0001020304050607L + i * 0x0808080808080808L, 8);
            }
            x.put(2);
            due.is("where key 2 is", x.entry(2, 2), place);
            due.is("get(2) at " + place, x.get(2), 64);
            for (int i = 0; i < 64; i++) {
                due.is("read(" + i + ")", x.read(i), i);
            }
        }
    }

    private static void goneBefore(Due due) {
        due.sentence("(what was read before is gone, also with NONE)");
        TrailStore x = new TrailStore(600);
        Due.put(x, 5, 3, 200);
        Due.put(x, 7, 2, 1);
        x.put(9);
        x.put(8);
        x.remove(8);
        for (int key : new int[] {9, 8, 6, -1, 120}) {
            x.get(5);
            due.is("read(0) of key 5", x.read(0), 200);
            x.get(key);
            due.none("read(0) after get(" + key + ")", x.read(0));
        }
        x.get(5);
        x.get(7);
        due.is("read(1)", x.read(1), 1);
        due.none("read(2), of what was read before", x.read(2));
    }

    private static void notThere(Due due) {
        due.sentence("NONE when it is not there");
        TrailStore x = new TrailStore(4096);
        due.none("get(8), which never was there", x.get(8));
        x.put(8);
        x.remove(8);
        due.none("get(8), removed in memory", x.get(8));
        x.checkpoint();
        due.none("get(8), removed in a table", x.get(8));
        Due.round(x, 10, 14);
        Due.round(x, 24, 14);
        Due.round(x, 38, 14);
        due.tables(x, new int[] {2, 42});
        due.none("get(8), of which no entry is left", x.get(8));
        x.begin();
        x.put(8);
        due.none("get(8), which is in a batch", x.get(8));
        x.cancel();
        due.none("get(8), whose batch is over", x.get(8));
    }

    private static void noKey(Due due) {
        due.sentence("or no key");
        TrailStore x = new TrailStore(600);
        x.put(0);
        x.put(119);
        for (int turn = 0; turn < 2; turn++) {
            for (int key : new int[] {-1, 120, 121, 255, 256, Integer.MIN_VALUE, Integer.MAX_VALUE}) {
                due.none("get(" + key + ")", x.get(key));
            }
            x.checkpoint();
        }
    }

    private static void down(Due due) {
        due.sentence("DOWN, and what was read stays.");
        TrailStore x = new TrailStore(600);
        Due.put(x, 5, 2, 4);
        Due.put(x, 7, 1, 9);
        x.sync();
        x.get(5);
        x.crash(0, 0);
        for (int key : new int[] {7, 5, 6, -1, 120}) {
            due.down("get(" + key + ")", x.get(key));
            due.is("read(0)", x.read(0), 4);
            due.is("read(1)", x.read(1), 4);
            due.none("read(2)", x.read(2));
        }
        x.open();
        due.is("read(0) after opening", x.read(0), 4);
    }
}
