public final class Promise08GetTest {
    public static void main(String[] args) {
        Due due = new Due("promise 8, get");
        TrailStore x = new TrailStore(600);
        Due.put(x, 5, 3, 200);
        Due.put(x, 7, 64, 1);
        x.put(9);
        due.value(x, 5, 200, 200, 200);
        due.is("get(7)", x.get(7), 64);
        due.is("get(9), of no bytes", x.get(9), 0);
        gone(due, x, "of no bytes");
        x.get(7);
        due.is("get(8)", x.get(8), TrailStore.NONE);
        gone(due, x, "what is not there");
        for (int key : new int[] {-1, 120, Integer.MIN_VALUE, Integer.MAX_VALUE}) {
            x.get(7);
            due.is("get(" + key + ")", x.get(key), TrailStore.NONE);
            gone(due, x, "no key");
        }
        x.remove(9);
        x.get(7);
        due.is("get(9), removed", x.get(9), TrailStore.NONE);
        gone(due, x, "a removed key");
        x.checkpoint();
        due.value(x, 5, 200, 200, 200);
        due.is("get(9), removed in a table", x.get(9), TrailStore.NONE);
        Due.put(x, 5, 1, 4);
        due.value(x, 5, 4);
        x.checkpoint();
        due.value(x, 5, 4);
        down(due, x);
        due.is("get(7) at the end of all", x.get(7), 64);
        roundTheEnd(due);
        due.end();
    }

    private static void gone(Due due, TrailStore x, String why) {
        due.is("read(0) after getting " + why, x.read(0), TrailStore.NONE);
    }

    private static void down(Due due, TrailStore x) {
        x.get(5);
        x.crash(0, 0);
        due.is("get(7) down", x.get(7), TrailStore.DOWN);
        due.is("get(-1) down", x.get(-1), TrailStore.DOWN);
        due.is("read(0), which stays", x.read(0), 4);
        x.open();
        due.is("read(0) after opening", x.read(0), 4);
    }

    /** A value that lies partly at the log's end and partly at its beginning. */
    private static void roundTheEnd(Due due) {
        TrailStore x = new TrailStore(512);
        for (int i = 0; i < 6; i++) {
            Due.put(x, 1, 64, 10 + i);
            x.collect(1000);
        }
        for (int i = 0; i < 8; i++) {
            x.type(i * 0x0101010101010101L, 8);
        }
        x.put(2);
        due.told(x, 0, 912 + 76);
        x.collect(1000);
        due.told(x, 0, 1140);
        due.is("where key 2 is", x.entry(2, 2), 1064);
        due.is("get(2)", x.get(2), 64);
        for (int i = 0; i < 64; i++) {
            due.is("read(" + i + ")", x.read(i), i / 8);
        }
        for (int turn = 0; turn < 8; turn++) {
            x.collect(1000);
            due.is("get(2) behind turn " + turn, x.get(2), 64);
            for (int i = 0; i < 64; i++) {
                due.is("read(" + i + ")", x.read(i), i / 8);
            }
        }
    }
}
