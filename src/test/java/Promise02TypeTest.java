public final class Promise02TypeTest {
    public static void main(String[] args) {
        Due due = new Due("Promise 2: type");
        lowestBytes(due);
        howLong(due);
        wrongNumbers(due);
        moreThan64(due);
        down(due);
        due.end();
    }

    private static void lowestBytes(Due due) {
        due.sentence("Puts n bytes behind the tape, the lowest n of bytes, the highest of them first");
        int[] all = {0x81, 0x02, 0x83, 0x04, 0x85, 0x06, 0x87, 0x08};
        for (int n = 1; n <= 8; n++) {
            TrailStore x = new TrailStore(600);
            x.type(0x8102830485068708L, n);
            x.put(1);
            due.value(x, 1, java.util.Arrays.copyOfRange(all, 8 - n, 8));
        }
        TrailStore x = new TrailStore(600);
        x.type(-1L, 1);
        x.type(0x0A0B0CL, 2);
        x.type(0L, 1);
        x.put(1);
        due.value(x, 1, 255, 11, 12, 0);
    }

    private static void howLong(Due due) {
        due.sentence("how long it is");
        TrailStore x = new TrailStore(600);
        int length = 0;
        for (int n = 1; n <= 8; n++) {
            length += n;
            due.is("type(1, " + n + ")", x.type(1L, n), length);
            due.told(x, 12, length);
        }
        x.put(1);
        due.is("type(1, 3) on an empty tape", x.type(1L, 3), 3);
    }

    private static void wrongNumbers(Due due) {
        due.sentence("NONE, and nothing is put, when n is not 1 .. 8");
        TrailStore x = new TrailStore(600);
        x.type(7L, 1);
        for (int n : new int[] {0, 9, 10, -1, -8, 64, 65, 257, Integer.MIN_VALUE, Integer.MAX_VALUE}) {
            due.none("type(-1, " + n + ")", x.type(-1L, n));
            due.told(x, 12, 1);
        }
        x.type(8L, 1);
        x.put(1);
        due.value(x, 1, 7, 8);
    }

    private static void moreThan64(Due due) {
        due.sentence("or there would be more than 64");
        for (int n = 1; n <= 8; n++) {
            TrailStore x = new TrailStore(600);
            Due.type(x, 64 - n, 5);
            due.none("type of " + (n + 1) + " to 65", x.type(-1L, n + 1));
            due.told(x, 12, 64 - n);
            due.is("type of " + n + " to 64", x.type(6L, n), 64);
            for (int more = 1; more <= 8; more++) {
                due.none("type of " + more + " behind 64", x.type(-1L, more));
            }
            due.told(x, 12, 64);
            x.put(1);
            due.is("get(1)", x.get(1), 64);
            due.is("read(" + (63 - n) + ")", x.read(63 - n), 5);
            due.is("read(63)", x.read(63), 6);
        }
    }

    private static void down(Due due) {
        due.sentence("DOWN when it is down.");
        TrailStore x = new TrailStore(600);
        x.crash(0, 0);
        for (int n = -1; n <= 9; n++) {
            due.down("type(1, " + n + ")", x.type(1L, n));
        }
        x.open();
        due.told(x, 12, 0);
    }
}
