public final class TermsTableTest {
    public static void main(String[] args) {
        Due due = new Due("Terms: tables");
        header(due);
        filterInHeader(due);
        entries(due);
        noMoreEntries(due);
        rising(due);
        filterOfEachKey(due);
        filterOfMany(due);
        allKeys(due);
        oneWrite(due);
        leastPlace(due);
        putAwayInThisCheckpoint(due);
        placeOfALostTable(due);
        numbered(due);
        due.end();
    }

    private static void header(Due due) {
        due.sentence("at its place 16 bytes: 84, its level, how many entries, 0, its number");
        TrailStore x = new TrailStore(4096);
        for (int i = 0; i < 3; i++) {
            Due.round(x, 11 * i, 11);
        }
        // keys 33 to 40, and 0, 1, 2: 41 in all, so that there are tables of levels 0, 1 and 2
        Due.putAll(x, 0, 3);
        Due.round(x, 33, 8);
        due.cells(x, 1, 0, 84, 0, 11, 0, 0, 0, 0, 1);
        due.cells(x, 1, 12, 0, 0, 0, 1);
        due.cells(x, 1, 3 * 1300, 84, 0, 11, 0, 0, 0, 0, 4);
        due.cells(x, 1, 4 * 1300, 84, 1, 41, 0, 0, 0, 0, 5);
        due.cells(x, 1, 4 * 1300 + 12, 0, 0, 0, 5);
        due.cells(x, 1, 5 * 1300, 84, 2, 41, 0, 0, 0, 0, 6);
        due.cells(x, 1, 5 * 1300 + 12, 0, 0, 0, 6);
    }

    private static void filterInHeader(Due due) {
        due.sentence("its FILTER, its number once more");
        TrailStore x = new TrailStore(600);
        x.put(5);
        x.put(7);
        x.checkpoint();
        Due.round(x, 9, 1);
        // 5 has bits 3 and 28, 7 has 17 and 18, 9 has 31 and 8
        due.cells(x, 1, 4, 0, 0, 0, 1, 0x10, 0x06, 0, 0x08, 0, 0, 0, 1);
        due.cells(x, 1, 1304, 0, 0, 0, 2, 0x80, 0, 0x01, 0, 0, 0, 0, 2);
    }

    private static void entries(Due due) {
        due.sentence("then of each entry 10 bytes: the key, the kind, where, the number");
        TrailStore x = new TrailStore(600);
        Due.put(x, 7, 3, 1);
        Due.put(x, 119, 1, 1);
        x.begin();
        x.put(0);
        x.remove(50);
        x.put(9);
        x.commit();
        x.checkpoint();
        due.cells(x, 1, 16, 0, 1, 0, 0, 0, 28, 0, 0, 0, 3);
        due.cells(x, 1, 26, 7, 1, 0, 0, 0, 0, 0, 0, 0, 1);
        due.cells(x, 1, 36, 9, 1, 0, 0, 0, 52, 0, 0, 0, 5);
        due.cells(x, 1, 46, 50, 2, 0, 0, 0, 40, 0, 0, 0, 4);
        due.cells(x, 1, 56, 119, 1, 0, 0, 0, 15, 0, 0, 0, 2, 0);
    }

    /**
     * 0, 32, 64 and 96 have the same bits. A table of 0 comes to the place where one of all four was, and
     * their entries stay behind its own; but those of 32 and 64 are in the table of level 1, as they were put again.
     */
    private static void noMoreEntries(Due due) {
        due.sentence("84, its level, how many entries");
        TrailStore x = new TrailStore(4096);
        for (int key = 0; key < 128; key += 32) {
            x.put(key);
        }
        x.checkpoint();
        Due.round(x, 32, 1);
        Due.round(x, 64, 1);
        x.remove(96);
        x.checkpoint();
        Due.round(x, 0, 1);
        due.tables(x, new int[] {0, 1, 0, 6, 0, 0}, new int[] {1, 4, 4, 5, 0, 96});
        due.cells(x, 1, 26, 32, 1, 0, 0, 0, 12, 0, 0, 0, 2, 64, 1);
        due.entry(x, 32, 1, 5, 48, 0);
        due.entry(x, 64, 1, 6, 60, 0);
        due.entry(x, 96, 2, 7, 72, 0);
        due.is("get(32)", x.get(32), 0);
        due.told(x, 10, 2, 11, 0);
        due.told(x, 8, 3);
        due.is("check()", x.check(), 1);
        // merged, they are not taken for entries either
        for (int i = 0; i < 3; i++) {
            Due.round(x, 0, 1);
        }
        due.tables(x, new int[] {1, 4});
        due.entry(x, 32, 1, 5, 48, 0);
        due.entry(x, 96, 2, 7, 72, 0);
    }

    private static void rising(Due due) {
        due.sentence("A TABLE has entries of different keys, rising");
        TrailStore x = new TrailStore(4096);
        for (int key = 119; key >= 96; key--) {
            x.put(key);
        }
        x.put(96);
        x.checkpoint();
        due.tables(x, new int[] {0, 24, 0, 1, 96, 119});
        for (int i = 0; i < 24; i++) {
            due.is("key " + i, x.cell(1, 16 + 10 * i), 96 + i);
        }
        due.is("the byte behind the entries", x.cell(1, 16 + 240), 0);
        for (int i = 0; i < 3; i++) {
            Due.round(x, 110 - 5 * i, 1);
        }
        due.tables(x, new int[] {1, 24, 4, 5, 96, 119});
        for (int i = 0; i < 24; i++) {
            due.is("key " + i, x.cell(1, 5200 + 16 + 10 * i), 96 + i);
        }
    }

    private static void filterOfEachKey(Due due) {
        due.sentence("A filter is bits 7 k mod 32 and (11 k + 5) mod 32 for each of its keys k");
        for (int key = 0; key < 120; key++) {
            TrailStore x = new TrailStore(600);
            Due.round(x, key, 1);
            long bits = (1L << (7 * key % 32)) + (1L << ((11 * key + 5) % 32));
            due.is("table(0, 6) of key " + key, x.table(0, 6), (int) bits);
            due.cells(x, 1, 8, (int) (bits >> 24), (int) (bits >> 16 & 255), (int) (bits >> 8 & 255), (int) (bits & 255));
        }
    }

    private static void filterOfMany(Due due) {
        due.sentence("bit 31 being the highest");
        TrailStore x = new TrailStore(600);
        x.put(9);
        x.put(0);
        x.checkpoint();
        // 9 has bits 31 and 8, 0 has 0 and 5
        due.is("table(0, 6)", x.table(0, 6), 0x80000121);
        due.cells(x, 1, 8, 0x80, 0, 1, 0x21);
        TrailStore y = new TrailStore(4096);
        Due.round(y, 0, 24);
        // 7 k leaves out 4, 8, 11, 15, 18, 22, 25 and 29, of which 11 k + 5 leaves out 4, 15 and 25
        due.is("table(0, 6) of 24 keys", y.table(0, 6), 0xFDFF7FEF);
    }

    /** 96 keys in a table of level 2, then 24 more and 17 of those: 41 in one of level 1, so all 120 in level 2. */
    private static void allKeys(Due due) {
        due.sentence("how many entries");
        TrailStore x = new TrailStore(4096);
        Due.putAll(x, 0, 120);
        due.tables(x, new int[] {2, 96, 5, 6, 0, 95});
        x.checkpoint();
        Due.round(x, 0, 17);
        Due.round(x, 0, 1);
        Due.round(x, 0, 1);
        due.tables(x, new int[] {2, 120, 6, 12, 0, 119});
        due.cells(x, 1, 6 * 1300, 84, 2, 120, 0, 0, 0, 0, 12);
        due.cells(x, 1, 6 * 1300 + 16 + 1190, 119, 1, 0, 0, 5, 148, 0, 0, 0, 120, 0);
        due.told(x, 8, 120);
        due.is("get(119)", x.get(119), 0);
        due.is("check()", x.check(), 1);
    }

    private static void oneWrite(Due due) {
        due.sentence("To write a table: a write of all its bytes");
        for (int cut = 0; cut <= 27; cut++) {
            TrailStore x = new TrailStore(600);
            x.put(7);
            x.fail(1, 0, cut);
            due.down("checkpoint()", x.checkpoint());
            // the table of key 7, whose bits are 17 and 18
            int[] bytes = {84, 0, 1, 0, 0, 0, 0, 1, 0, 6, 0, 0, 0, 0, 0, 1, 7, 1, 0, 0, 0, 0, 0, 0, 0, 1, 0};
            for (int i = 0; i < bytes.length; i++) {
                due.is("byte " + i + " of the table cut at " + cut, x.cell(1, i), i < cut ? bytes[i] : 0);
            }
        }
    }

    private static void leastPlace(Due due) {
        due.sentence("at the least place that is in no table in use");
        TrailStore x = new TrailStore(4096);
        Due.round(x, 1, 1);
        Due.round(x, 2, 1);
        Due.round(x, 3, 2);
        due.tables(x, new int[] {0, 2, 2, 3}, new int[] {0, 1, 1, 2}, new int[] {0, 1, 0, 1});
        Due.round(x, 4, 1);
        due.tables(x, new int[] {1, 4, 4, 5});
        Due.round(x, 5, 1);
        due.tables(x, new int[] {0, 1, 0, 6}, new int[] {1, 4, 4, 5});
        Due.round(x, 6, 1);
        Due.round(x, 7, 1);
        due.tables(x, new int[] {0, 1, 2, 8}, new int[] {0, 1, 1, 7}, new int[] {0, 1, 0, 6}, new int[] {1, 4, 4, 5});
        Due.round(x, 0, 1);
        due.tables(x, new int[] {1, 8, 5, 10});
        for (int i = 0; i < 4; i++) {
            Due.round(x, 8, 1);
        }
        due.tables(x, new int[] {1, 9, 4, 15});
        Due.round(x, 8, 1);
        due.tables(x, new int[] {0, 1, 0, 16}, new int[] {1, 9, 4, 15});
    }

    private static void putAwayInThisCheckpoint(Due due) {
        due.sentence("and in none that was put away in this checkpoint");
        TrailStore x = new TrailStore(4096);
        for (int i = 0; i < 4; i++) {
            Due.round(x, 11 * i, 11);
        }
        // level 0 at 0, 1, 2 and 3, level 1 at 4, so level 2 is at 5
        due.tables(x, new int[] {2, 44, 5, 6});
        for (int i = 0; i < 4; i++) {
            Due.round(x, 50 + i, 1);
        }
        due.tables(x, new int[] {1, 4, 4, 11}, new int[] {2, 44, 5, 6});
        for (int i = 0; i < 4; i++) {
            Due.round(x, 60 + 11 * i, 11);
        }
        // level 0 at 0, 1, 2 and 3, level 1 at 6 and level 2 at 7: 4 was put away, 5 still in use
        due.tables(x, new int[] {2, 92, 7, 17});
        for (int i = 0; i < 4; i++) {
            Due.round(x, 11 * i, 11);
        }
        due.tables(x, new int[] {2, 92, 5, 23});
    }

    /** A table whose root was lost is in use nowhere: its place and its number come again. */
    private static void placeOfALostTable(Due due) {
        due.sentence("in no table in use");
        TrailStore x = new TrailStore(600);
        Due.round(x, 1, 1);
        x.put(2);
        x.fail(3, 9, 9);
        due.down("checkpoint()", x.checkpoint());
        due.is("the lost table's number", x.cell(1, 1307), 2);
        x.open();
        due.told(x, 6, 1, 14, 2);
        x.put(3);
        x.checkpoint();
        due.tables(x, new int[] {0, 2, 1, 2, 2, 3}, new int[] {0, 1, 0, 1, 1, 1});
    }

    private static void numbered(Due due) {
        due.sentence("(tables are numbered on and on from 1)");
        TrailStore x = new TrailStore(600);
        int[] numbers = {1, 2, 3, 5, 6, 7, 8, 10};
        for (int i = 0; i < numbers.length; i++) {
            Due.round(x, i, 1);
            due.is("table(0, 3)", x.table(0, 3), numbers[i]);
            due.told(x, 14, numbers[i] + 1);
        }
    }
}
