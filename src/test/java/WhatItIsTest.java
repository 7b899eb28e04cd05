public final class WhatItIsTest {
    public static void main(String[] args) {
        Due due = new Due("What it is");
        goesRound(due);
        byLevels(due);
        collectedFromTail(due);
        to512(due);
        dearestTo512(due);
        due.end();
    }

    private static void goesRound(Due due) {
        due.sentence("values lie in a log that goes round");
        TrailStore x = new TrailStore(512);
        for (int i = 0; i < 100; i++) {
            due.is("put " + i, Due.put(x, i % 5, 20 + i % 4, i), 1);
        }
        due.is("whether HEAD has gone round", x.told(0) > 3 * 512 ? 1 : 0, 1);
        for (int i = 95; i < 100; i++) {
            due.is("get(" + i % 5 + ")", x.get(i % 5), 20 + i % 4);
            due.is("read(19)", x.read(19), i);
        }
        due.is("check()", x.check(), 1);
    }

    private static void byLevels(Due due) {
        due.sentence("keys with the places of their values in tables by levels");
        TrailStore x = new TrailStore(4096);
        Due.putAll(x, 0, 120);
        x.checkpoint();
        due.tables(x, new int[] {0, 24, 0, 7, 96, 119}, new int[] {2, 96, 5, 6, 0, 95});
        for (int key = 0; key < 120; key++) {
            due.is("where key " + key + " is", x.entry(key, 2), 12 * key);
        }
    }

    private static void collectedFromTail(Due due) {
        due.sentence("what the log does not need any more is collected from its tail");
        TrailStore x = new TrailStore(512);
        for (int i = 0; i < 20; i++) {
            x.put(i % 2);
        }
        due.told(x, 0, 240, 1, 0, 9, 24);
        due.is("collect(18)", x.collect(18), 18);
        due.told(x, 0, 240, 1, 216, 9, 24);
        due.is("collect(2)", x.collect(2), 2);
        due.told(x, 0, 264, 1, 240, 9, 24);
    }

    private static void to512(Due due) {
        due.sentence("An object is used for at most 512 calls after it has been made");
        TrailStore x = new TrailStore(512);
        for (int i = 0; i < 511; i++) {
            due.is("call " + (i + 1) + ", put(" + i % 3 + ")", x.put(i % 3), 1);
        }
        due.is("call 512, told(8)", x.told(8), 3);
    }

    /** 27 keys leave no room, so that each put looks at all of them again, and more than once. */
    private static void dearestTo512(Due due) {
        due.sentence("at most 512 calls");
        TrailStore x = new TrailStore(512);
        Due.putAll(x, 0, 27);
        for (int i = 27; i < 510; i++) {
            due.full("call " + (i + 1) + ", put(" + i % 27 + ")", x.put(i % 27));
        }
        due.is("call 511, told(8)", x.told(8), 27);
        due.is("call 512, check()", x.check(), 1);
        TrailStore y = new TrailStore(4096);
        for (int key = 0; key < 24; key++) {
            Due.put(y, key, 16, key);
        }
        for (int i = 72; i < 510; i++) {
            due.is("call " + (i + 1) + ", collect(1000)", y.collect(1000), 24);
        }
        due.is("call 511, get(23)", y.get(23), 16);
        due.is("call 512, check()", y.check(), 1);
    }
}
