/**
 * Holds answers against those that are due, and ends a test with 1 if one was not. Each answer
 * belongs to a sentence of the document, which is told with an answer that is wrong.
 */
final class Due {
    private static final int MOST_TOLD = 20;

    private final String part;
    private String sentence = "";
    private int sentences;
    private int askedHere;
    private int asked;
    private int wrong;

    Due(String part) {
        this.part = part;
    }

    /** The answers from here on are due by these words of the document. */
    void sentence(String words) {
        sentenceEnds();
        sentence = words;
        sentences++;
        askedHere = 0;
    }

    private void sentenceEnds() {
        if (!sentence.isEmpty() && askedHere == 0) {
            isWrong("nothing was asked");
        }
    }

    private void isWrong(String how) {
        wrong++;
        if (wrong <= MOST_TOLD) {
            System.out.println(part + ", '" + sentence + "': " + how);
        }
    }

    void is(String call, long got, long want) {
        asked++;
        askedHere++;
        if (got != want) {
            isWrong(call + " answered " + got + ", due is " + want);
        }
    }

    void none(String call, int got) {
        is(call, got, TrailStore.NONE);
    }

    void down(String call, int got) {
        is(call, got, TrailStore.DOWN);
    }

    void full(String call, int got) {
        is(call, got, TrailStore.FULL);
    }

    /** A row of cells of an area, from one on. */
    void cells(TrailStore x, int area, int from, int... want) {
        for (int i = 0; i < want.length; i++) {
            is("cell(" + area + ", " + (from + i) + ")", x.cell(area, from + i), want[i]);
        }
    }

    /** A row of bytes of the log, from a place on, which may go round. */
    void log(TrailStore x, int room, int place, int... want) {
        for (int i = 0; i < want.length; i++) {
            is("the log's byte at place " + (place + i), x.cell(0, (place + i) % room), want[i]);
        }
    }

    /** The value of a key, byte by byte; get() answers how many they are. */
    void value(TrailStore x, int key, int... want) {
        is("get(" + key + ")", x.get(key), want.length);
        for (int i = 0; i < want.length; i++) {
            is("read(" + i + ") of key " + key, x.read(i), want[i]);
        }
        none("read behind the value of key " + key, x.read(want.length));
    }

    /** Some answers of told(), each as a pair: what is asked, what is due. */
    void told(TrailStore x, int... pairs) {
        for (int i = 0; i + 1 < pairs.length; i += 2) {
            is("told(" + pairs[i] + ")", x.told(pairs[i]), pairs[i + 1]);
        }
    }

    /** The tables in use, the newest first, each as a row of answers: level, entries, place, number and so on. */
    void tables(TrailStore x, int[]... want) {
        told(x, 6, want.length);
        for (int i = 0; i < want.length; i++) {
            for (int what = 0; what < want[i].length; what++) {
                is("table(" + i + ", " + what + ")", x.table(i, what), want[i][what]);
            }
        }
    }

    /** The entry of a key: its kind, its number, where its record is, whether it is in memory. */
    void entry(TrailStore x, int key, int... want) {
        for (int what = 0; what < want.length; what++) {
            is("entry(" + key + ", " + what + ")", x.entry(key, what), want[what]);
        }
    }

    /** Puts a value of some equal bytes. */
    static int put(TrailStore x, int key, int length, int fill) {
        type(x, length, fill);
        return x.put(key);
    }

    /** Types some equal bytes, eight at a time, as an object is used for 512 calls alone. */
    static void type(TrailStore x, int length, int fill) {
        for (int left = length; left > 0; left -= 8) {
            x.type(fill * 0x0101010101010101L, Math.min(8, left));
        }
    }

    /** Puts keys with values of no bytes. */
    static void putAll(TrailStore x, int from, int keys) {
        for (int key = from; key < from + keys; key++) {
            x.put(key);
        }
    }

    /** One more table of level 0 with these keys. */
    static void round(TrailStore x, int from, int keys) {
        putAll(x, from, keys);
        x.checkpoint();
    }

    /** Brings TAIL and HEAD to a place; key 1, which is used for it, is not there then. Not to one of the next 23. */
    static void moveTo(TrailStore x, int place) {
        for (int left = place - x.told(0); left > 0; left = place - x.told(0)) {
            int step = left > 112 ? 88 : left > 88 ? left - 24 : left;
            put(x, 1, step - 24, 50);
            x.remove(1);
            x.collect(1000);
        }
    }

    void end() {
        sentenceEnds();
        System.out.println(part + ": " + sentences + " sentences, " + asked + " answers, " + wrong + " wrong");
        if (wrong != 0) {
            System.exit(1);
        }
    }
}
