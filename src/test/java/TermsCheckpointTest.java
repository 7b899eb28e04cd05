public final class TermsCheckpointTest {
    public static void main(String[] args) {
        Due due = new Due("Terms: a checkpoint");
        firstSync(due);
        emptyMemory(due);
        levelZero(due);
        fourOfLevelZero(due);
        takesTheirPlace(due);
        newestTableCounts(due);
        removalsInLevelOne(due);
        fortyEntries(due);
        fortyOneEntries(due);
        withoutRemovals(due);
        nothingLeft(due);
        memoryEmpty(due);
        syncBeforeRoot(due);
        checkpointIsHead(due);
        lastSync(due);
        due.end();
    }

    private static void firstSync(Due due) {
        due.sentence("A CHECKPOINT: a sync.");
        TrailStore x = new TrailStore(600);
        x.put(1);
        x.fail(1, 0, 0);
        due.down("checkpoint()", x.checkpoint());
        due.is("the table, which is not kept", x.cell(1, 0), 0);
        due.is("open(), with what was put before", x.open(), 1);
    }

    private static void emptyMemory(Due due) {
        due.sentence("If memory is not empty");
        TrailStore x = new TrailStore(600);
        x.checkpoint();
        due.told(x, 4, 1, 6, 0, 14, 1);
        due.is("place 0", x.cell(1, 0), 0);
        Due.round(x, 1, 1);
        x.checkpoint();
        due.told(x, 4, 3, 6, 1, 14, 2);
        x.put(1);
        x.checkpoint();
        due.told(x, 4, 4, 6, 2, 14, 3);
    }

    private static void levelZero(Due due) {
        due.sentence("a table of level 0 with all that memory has is written, and is the newest in use");
        TrailStore x = new TrailStore(4096);
        x.put(50);
        x.checkpoint();
        Due.putAll(x, 0, 22);
        x.begin();
        x.remove(60);
        x.commit();
        x.remove(50);
        due.told(x, 5, 24);
        due.is("checkpoint()", x.checkpoint(), 2);
        due.tables(x, new int[] {0, 24, 1, 2, 0, 60}, new int[] {0, 1, 0, 1, 50, 50});
        due.entry(x, 60, 2, 24, 276, 0);
        due.entry(x, 50, 2, 25, 288, 0);
        due.entry(x, 0, 1, 2, 12, 0);
        due.entry(x, 21, 1, 23, 264, 0);
    }

    private static void fourOfLevelZero(Due due) {
        due.sentence("if there are 4 of level 0 then: a table of level 1 with the entries of all keys that these and the "
                + "one of level 1 have is written");
        TrailStore x = new TrailStore(4096);
        for (int i = 0; i < 3; i++) {
            Due.round(x, 10 * i, 2);
        }
        due.tables(x, new int[] {0, 2}, new int[] {0, 2}, new int[] {0, 2});
        Due.round(x, 30, 3);
        due.tables(x, new int[] {1, 9, 4, 5, 0, 32});
        for (int i = 0; i < 3; i++) {
            Due.round(x, 100 + i, 1);
        }
        due.tables(x, new int[] {0, 1}, new int[] {0, 1}, new int[] {0, 1}, new int[] {1, 9, 4, 5, 0, 32});
        Due.round(x, 119, 1);
        due.tables(x, new int[] {1, 13, 5, 10, 0, 119});
        for (int key : new int[] {0, 1, 10, 11, 20, 21, 30, 31, 32, 100, 101, 102, 119}) {
            due.is("get(" + key + ")", x.get(key), 0);
        }
        due.told(x, 8, 13);
    }

    /** Level 1 takes the place of the four of level 0 and its own, before that of level 2. */
    private static void takesTheirPlace(Due due) {
        due.sentence("is written, and takes their place");
        TrailStore x = new TrailStore(4096);
        for (int i = 0; i < 4; i++) {
            Due.round(x, 11 * i, 11);
        }
        due.tables(x, new int[] {2, 44, 5, 6, 0, 43});
        for (int i = 0; i < 4; i++) {
            Due.round(x, 50 + i, 1);
        }
        due.tables(x, new int[] {1, 4, 4, 11, 50, 53}, new int[] {2, 44, 5, 6, 0, 43});
        for (int i = 0; i < 4; i++) {
            Due.round(x, 60 + i, 1);
        }
        due.tables(x, new int[] {1, 8, 6, 16, 50, 63}, new int[] {2, 44, 5, 6, 0, 43});
        for (int i = 0; i < 4; i++) {
            Due.round(x, 70 + 9 * i, 9);
        }
        due.tables(x, new int[] {2, 88, 7, 22, 0, 105});
    }

    /** Key 1 is in all four tables, then in four more and that of level 1. */
    private static void newestTableCounts(Due due) {
        due.sentence("(of each key the one of the newest table)");
        TrailStore x = new TrailStore(4096);
        for (int i = 0; i < 8; i++) {
            Due.put(x, 1, i, i);
            x.put(10 + i);
            if (i == 6) {
                x.remove(12);
            }
            x.checkpoint();
            due.is("the number of key 1", x.entry(1, 1), 2 * i + (i == 7 ? 2 : 1));
        }
        due.tables(x, new int[] {1, 9});
        due.value(x, 1, 7, 7, 7, 7, 7, 7, 7);
        due.entry(x, 12, 2, 15, 189, 0);
        due.is("get(11)", x.get(11), 0);
    }

    private static void removalsInLevelOne(Due due) {
        due.sentence("the entries of all keys");
        TrailStore x = new TrailStore(4096);
        Due.round(x, 1, 2);
        x.remove(1);
        x.checkpoint();
        Due.round(x, 3, 1);
        Due.round(x, 4, 1);
        due.tables(x, new int[] {1, 4, 4, 5, 1, 4});
        due.entry(x, 1, 2, 3, 24, 0);
        due.told(x, 8, 3);
    }

    private static void fortyEntries(Due due) {
        due.sentence("if it has more than 40 entries");
        TrailStore x = new TrailStore(4096);
        for (int i = 0; i < 4; i++) {
            Due.round(x, 10 * i, 10);
        }
        due.tables(x, new int[] {1, 40, 4, 5, 0, 39});
        for (int i = 0; i < 4; i++) {
            Due.round(x, i, 1);
        }
        due.tables(x, new int[] {1, 40, 5, 10, 0, 39});
        Due.round(x, 40, 1);
        due.tables(x, new int[] {0, 1, 0, 11}, new int[] {1, 40, 5, 10});
        for (int i = 0; i < 3; i++) {
            Due.round(x, i, 1);
        }
        // level 0 at 3, level 1 at 4 with 41 entries, level 2 at 6
        due.tables(x, new int[] {2, 41, 6, 16, 0, 40});
    }

    private static void fortyOneEntries(Due due) {
        due.sentence("more than 40 entries: a table of level 2 likewise of it and the one of level 2");
        TrailStore x = new TrailStore(4096);
        for (int i = 0; i < 3; i++) {
            Due.round(x, 10 * i, 10);
        }
        Due.round(x, 30, 11);
        due.tables(x, new int[] {2, 41, 5, 6, 0, 40});
        for (int i = 0; i < 3; i++) {
            Due.round(x, 30 + 10 * i, 10);
        }
        Due.put(x, 60, 2, 9);
        Due.round(x, 61, 10);
        due.tables(x, new int[] {2, 71, 6, 12, 0, 70});
        due.told(x, 8, 71);
        due.is("the number of key 29", x.entry(29, 1), 30);
        due.is("the number of key 30, which came again", x.entry(30, 1), 42);
        due.value(x, 60, 9, 9);
        due.is("check()", x.check(), 1);
    }

    private static void withoutRemovals(Due due) {
        due.sentence("but without removals");
        TrailStore x = new TrailStore(4096);
        for (int i = 0; i < 3; i++) {
            Due.round(x, 10 * i, 10);
        }
        Due.putAll(x, 30, 10);
        x.begin();
        x.remove(119);
        x.commit();
        x.checkpoint();
        // with the removal there were 41, without it 40 are left
        due.tables(x, new int[] {2, 40, 5, 6, 0, 39});
        due.none("entry(119, 0)", x.entry(119, 0));
        for (int i = 0; i < 3; i++) {
            Due.round(x, 50 + 10 * i, 10);
        }
        x.remove(0);
        x.remove(39);
        Due.round(x, 80, 9);
        // 39 and two removals: 41; of the 40 below two go
        due.tables(x, new int[] {2, 77, 6, 12, 1, 88});
        due.none("entry(0, 0)", x.entry(0, 0));
        due.none("entry(39, 0)", x.entry(39, 0));
        due.none("get(39)", x.get(39));
        due.told(x, 8, 77);
        due.is("check()", x.check(), 1);
    }

    private static void nothingLeft(Due due) {
        due.sentence("(if nothing is left, none is written, nor in use)");
        TrailStore x = new TrailStore(4096);
        for (int i = 0; i < 4; i++) {
            Due.round(x, 11 * i, 11);
        }
        due.tables(x, new int[] {2, 44, 5, 6, 0, 43});
        for (int key = 0; key < 44; key++) {
            x.remove(key);
            if (key % 11 == 10 && key < 43) {
                x.checkpoint();
            }
        }
        due.is("checkpoint()", x.checkpoint(), 0);
        due.tables(x);
        // four of level 0 and one of level 1 were written
        due.told(x, 4, 8, 5, 0, 6, 0, 8, 0, 14, 12);
        due.cells(x, 2, 16, 0, 0, 0, 12, 0, 0, 0);
        due.is("the place of level 2, which stays", x.cell(1, 6500 + 7), 6);
        due.is("the place behind", x.cell(1, 7800), 0);
        due.is("check()", x.check(), 1);
        x.crash(0, 0);
        due.is("open()", x.open(), 0);
        due.told(x, 6, 0, 8, 0, 14, 12);
        Due.round(x, 3, 1);
        due.tables(x, new int[] {0, 1, 0, 12, 3, 3});
    }

    private static void memoryEmpty(Due due) {
        due.sentence("Then memory is empty");
        TrailStore x = new TrailStore(600);
        x.put(1);
        x.remove(2);
        x.put(3);
        x.checkpoint();
        due.told(x, 5, 0);
        due.is("entry(1, 3)", x.entry(1, 3), 0);
        due.is("get(1)", x.get(1), 0);
    }

    /** Of the root's writes none is kept, so that what was written before shows whether it was lasting. */
    private static void syncBeforeRoot(Due due) {
        due.sentence("Then memory is empty, a sync");
        TrailStore x = new TrailStore(600);
        x.put(1);
        x.fail(2, 0, 0);
        due.down("checkpoint()", x.checkpoint());
        due.cells(x, 1, 0, 84, 0, 1);
        due.is("open()", x.open(), 1);
        due.told(x, 4, 0, 6, 0);
    }

    private static void checkpointIsHead(Due due) {
        due.sentence("the checkpoint is HEAD, the root is written");
        TrailStore x = new TrailStore(600);
        Due.put(x, 1, 7, 1);
        due.told(x, 2, 0);
        x.checkpoint();
        due.told(x, 0, 19, 2, 19, 4, 1);
        due.cells(x, 2, 68, 0, 0, 0, 19);
        x.put(2);
        due.told(x, 0, 31, 2, 19);
        x.crash(9, 9);
        due.is("open()", x.open(), 1);
        due.told(x, 0, 31, 2, 19);
        x.checkpoint();
        due.told(x, 2, 31, 4, 2);
    }

    private static void lastSync(Due due) {
        due.sentence("the root is written, a sync");
        TrailStore x = new TrailStore(600);
        x.put(1);
        x.checkpoint();
        due.told(x, 7, 0);
        due.is("crash(0, 0)", x.crash(0, 0), 0);
        due.is("open()", x.open(), 0);
        due.told(x, 4, 1, 6, 1, 8, 1);
    }
}
