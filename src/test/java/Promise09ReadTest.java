public final class Promise09ReadTest {
    public static void main(String[] args) {
        Due due = new Due("Promise 9: read");
        bytes(due);
        latest(due);
        none(due);
        whileDown(due);
        due.end();
    }

    private static void bytes(Due due) {
        due.sentence("Byte i of what was read latest, 0 .. 255");
        TrailStore x = new TrailStore(600);
        x.type(0x00FF807F01FE8100L, 8);
        x.put(1);
        x.get(1);
        int[] want = {0, 255, 128, 127, 1, 254, 129, 0};
        for (int i = 0; i < want.length; i++) {
            due.is("read(" + i + ")", x.read(i), want[i]);
        }
        due.is("read(1) once more", x.read(1), 255);
        Due.put(x, 2, 64, 200);
        x.get(2);
        due.is("read(0)", x.read(0), 200);
        due.is("read(63)", x.read(63), 200);
    }

    /** It is what get() read, whatever becomes of the key behind it. */
    private static void latest(Due due) {
        due.sentence("what was read latest");
        TrailStore x = new TrailStore(600);
        Due.put(x, 1, 2, 7);
        Due.put(x, 2, 2, 8);
        x.get(1);
        Due.put(x, 1, 1, 9);
        due.is("read(1) behind a put", x.read(1), 7);
        x.remove(1);
        due.is("read(1) behind a remove", x.read(1), 7);
        x.type(5L, 8);
        due.is("read(1) behind a type", x.read(1), 7);
        x.entry(2, 0);
        x.next(2);
        x.check();
        x.collect(1000);
        due.is("read(1) behind a collect", x.read(1), 7);
        x.get(2);
        due.is("read(1) of key 2", x.read(1), 8);
    }

    private static void none(Due due) {
        due.sentence("NONE when there is none.");
        TrailStore x = new TrailStore(600);
        due.none("read(0) before any get()", x.read(0));
        Due.put(x, 1, 5, 3);
        due.none("read(0) before any get()", x.read(0));
        x.get(1);
        due.is("read(4)", x.read(4), 3);
        for (int i : new int[] {5, 6, 63, 64, 65, 255, -1, -5, Integer.MIN_VALUE, Integer.MAX_VALUE}) {
            due.none("read(" + i + ")", x.read(i));
        }
        Due.put(x, 2, 64, 3);
        x.get(2);
        due.none("read(64) of 64 bytes", x.read(64));
        due.none("read(-1) of 64 bytes", x.read(-1));
        x.put(3);
        x.get(3);
        due.none("read(0) of no bytes", x.read(0));
    }

    private static void whileDown(Due due) {
        due.sentence("(While it is, calls of which DOWN is told answer that before all else, whatever the numbers.)");
        TrailStore x = new TrailStore(600);
        x.crash(0, 0);
        due.none("read(0), of which DOWN is not told", x.read(0));
        x.open();
        Due.put(x, 2, 64, 77);
        x.get(2);
        x.crash(0, 0);
        due.is("read(63)", x.read(63), 77);
        due.none("read(64)", x.read(64));
        x.open();
        due.is("read(63) after opening", x.read(63), 77);
    }
}
