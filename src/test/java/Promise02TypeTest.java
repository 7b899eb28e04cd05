public final class Promise02TypeTest {
    public static void main(String[] args) {
        Due due = new Due("promise 2, type");
        TrailStore x = new TrailStore(600);
        due.is("type(0x0102030405060708, 8)", x.type(0x0102030405060708L, 8), 8);
        due.is("type(0x0A0B0C, 2)", x.type(0x0A0B0CL, 2), 10);
        due.is("type(-1, 1)", x.type(-1L, 1), 11);
        due.is("type(0xFF00FF80, 4)", x.type(0xFF00FF80L, 4), 15);
        x.put(1);
        due.value(x, 1, 1, 2, 3, 4, 5, 6, 7, 8, 11, 12, 255, 255, 0, 255, 128);
        due.told(x, 12, 0);
        wrongNumbers(due, x);
        sixtyFour(due);
        due.is("crash(0, 0)", x.crash(0, 0), 3);
        due.is("type(1, 1) down", x.type(1L, 1), TrailStore.DOWN);
        due.is("type(1, 9) down", x.type(1L, 9), TrailStore.DOWN);
        due.end();
    }

    private static void wrongNumbers(Due due, TrailStore x) {
        for (int n : new int[] {0, 9, -1, Integer.MIN_VALUE, Integer.MAX_VALUE}) {
            due.is("type(1, " + n + ")", x.type(1L, n), TrailStore.NONE);
            due.told(x, 12, 0);
        }
    }

    private static void sixtyFour(Due due) {
        TrailStore x = new TrailStore(600);
        for (int i = 1; i <= 7; i++) {
            due.is("type(i, 8)", x.type(i, 8), 8 * i);
        }
        due.is("type(1, 7)", x.type(1L, 7), 63);
        due.is("type(1, 2) beyond 64", x.type(1L, 2), TrailStore.NONE);
        due.told(x, 12, 63);
        due.is("type(9, 1) to 64", x.type(9L, 1), 64);
        due.is("type(1, 1) beyond 64", x.type(1L, 1), TrailStore.NONE);
        due.told(x, 12, 64);
        due.is("put(0)", x.put(0), 1);
        due.is("get(0)", x.get(0), 64);
        due.is("read(7)", x.read(7), 1);
        due.is("read(63)", x.read(63), 9);
        due.is("type(1, 1) again", x.type(1L, 1), 1);
    }
}
