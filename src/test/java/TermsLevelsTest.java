public final class TermsLevelsTest {
    public static void main(String[] args) {
        Due due = new Due("Terms: the tables in use");
        threeOfLevelZero(due);
        oneOfLevelOne(due);
        oneOfLevelTwo(due);
        newestFirst(due);
        entryInMemory(due);
        entryOfFirstTable(due);
        there(due);
        due.end();
    }

    private static void threeOfLevelZero(Due due) {
        due.sentence("of level 0 at most 3");
        TrailStore x = new TrailStore(600);
        int[] want = {1, 2, 3, 0, 1, 2, 3, 0};
        for (int i = 0; i < want.length; i++) {
            Due.round(x, i, 1);
            int ofLevelZero = 0;
            for (int t = 0; t < x.told(6); t++) {
                ofLevelZero += x.table(t, 0) == 0 ? 1 : 0;
            }
            due.is("tables of level 0 after checkpoint " + (i + 1), ofLevelZero, want[i]);
        }
    }

    private static void oneOfLevelOne(Due due) {
        due.sentence("then at most one of level 1");
        TrailStore x = new TrailStore(600);
        for (int i = 0; i < 4; i++) {
            Due.round(x, i, 1);
        }
        due.tables(x, new int[] {1, 4});
        for (int i = 4; i < 7; i++) {
            Due.round(x, i, 1);
        }
        due.tables(x, new int[] {0, 1}, new int[] {0, 1}, new int[] {0, 1}, new int[] {1, 4});
        Due.round(x, 7, 1);
        due.tables(x, new int[] {1, 8});
    }

    private static void oneOfLevelTwo(Due due) {
        due.sentence("then at most one of level 2");
        TrailStore x = new TrailStore(4096);
        for (int turn = 0; turn < 2; turn++) {
            for (int i = 0; i < 4; i++) {
                Due.round(x, 50 * turn + 11 * i, 11);
            }
            due.tables(x, new int[] {2, 44 + 44 * turn});
        }
        due.told(x, 8, 88);
    }

    private static TrailStore fiveTables() {
        TrailStore x = new TrailStore(4096);
        for (int i = 0; i < 4; i++) {
            Due.round(x, 11 * i, 11);
        }
        for (int i = 0; i < 7; i++) {
            Due.round(x, 44 + i, 1);
        }
        return x;
    }

    private static void newestFirst(Due due) {
        due.sentence("THE TABLES IN USE, the newest first");
        TrailStore x = fiveTables();
        int[][] want = {{0, 1, 2, 14, 50, 50}, {0, 1, 1, 13, 49, 49}, {0, 1, 0, 12, 48, 48}, {1, 4, 4, 11, 44, 47},
            {2, 44, 5, 6, 0, 43}};
        due.tables(x, want);
        x.crash(0, 0);
        x.open();
        due.tables(x, want);
    }

    private static void entryInMemory(Due due) {
        due.sentence("The ENTRY of a key is the one in memory");
        TrailStore x = fiveTables();
        int number = x.told(3);
        int head = x.told(0);
        int i = 0;
        for (int key : new int[] {50, 49, 48, 44, 0}) {
            x.remove(key);
            due.entry(x, key, 2, number + i, head + 12 * i, 1);
            i++;
        }
        due.entry(x, 1, 1, 2, 12, 0);
    }

    /** Key 0 is in the table of level 2, and comes into one more of the newer tables each time. */
    private static void entryOfFirstTable(Due due) {
        due.sentence("else that of the first table that has one");
        TrailStore x = new TrailStore(4096);
        for (int i = 0; i < 4; i++) {
            Due.round(x, 11 * i, 11);
        }
        due.entry(x, 0, 1, 1, 0, 0);
        for (int i = 0; i < 7; i++) {
            Due.put(x, 0, i, i);
            x.checkpoint();
            due.is("the number", x.entry(0, 1), 45 + i);
            due.is("get(0)", x.get(0), i);
        }
        due.tables(x, new int[] {0}, new int[] {0}, new int[] {0}, new int[] {1}, new int[] {2});
        due.is("the first key of level 1", x.table(3, 4), 0);
        due.is("the first key of level 2", x.table(4, 4), 0);
        due.told(x, 8, 44);
        due.value(x, 0, 6, 6, 6, 6, 6, 6);
    }

    private static void there(Due due) {
        due.sentence("A key is THERE if it has an entry of kind 1.");
        TrailStore x = fiveTables();
        due.told(x, 8, 51);
        x.remove(0);
        x.remove(44);
        x.remove(50);
        due.told(x, 8, 48);
        x.checkpoint();
        due.tables(x, new int[] {1, 8}, new int[] {2, 44});
        due.told(x, 8, 48);
        for (int key : new int[] {0, 44, 50}) {
            due.none("get(" + key + ")", x.get(key));
            due.is("its kind", x.entry(key, 0), 2);
            due.is("remove(" + key + ")", x.remove(key), 0);
        }
        due.is("next(0)", x.next(0), 1);
        due.is("next(44)", x.next(44), 45);
        due.none("next(50)", x.next(50));
        x.put(0);
        due.is("get(0), put again", x.get(0), 0);
        due.told(x, 8, 49);
    }
}
