/** Holds answers against those that are due, and ends a test with 1 if one was not. */
final class Due {
    private final String test;
    private int wrong;
    private int asked;

    Due(String test) {
        this.test = test;
    }

    void is(String call, long got, long want) {
        asked++;
        if (got != want) {
            wrong++;
            System.out.println(test + ": " + call + " answered " + got + ", due is " + want);
        }
    }

    /** A row of cells of an area, from one on. */
    void cells(TrailStore x, int area, int from, int... want) {
        for (int i = 0; i < want.length; i++) {
            is("cell(" + area + ", " + (from + i) + ")", x.cell(area, from + i), want[i]);
        }
    }

    /** The value of a key, byte by byte; get() answers how many they are. */
    void value(TrailStore x, int key, int... want) {
        is("get(" + key + ")", x.get(key), want.length);
        for (int i = 0; i < want.length; i++) {
            is("read(" + i + ") of key " + key, x.read(i), want[i]);
        }
        is("read behind the value of key " + key, x.read(want.length), TrailStore.NONE);
    }

    /** Some answers of told(), each as a pair: what is asked, what is due. */
    void told(TrailStore x, int... pairs) {
        for (int i = 0; i + 1 < pairs.length; i += 2) {
            is("told(" + pairs[i] + ")", x.told(pairs[i]), pairs[i + 1]);
        }
    }

    /** Puts a value of some equal bytes. */
    static int put(TrailStore x, int key, int length, int fill) {
        type(x, length, fill);
        return x.put(key);
    }

    static void type(TrailStore x, int length, int fill) {
        for (int i = 0; i < length; i++) {
            x.type(fill, 1);
        }
    }

    void end() {
        System.out.println(test + ": " + asked + " answers, " + wrong + " wrong");
        if (wrong != 0) {
            System.exit(1);
        }
    }
}
