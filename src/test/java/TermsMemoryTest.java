public final class TermsMemoryTest {
    public static void main(String[] args) {
        Due due = new Due("Terms: memory");
        oneForAKey(due);
        theEntry(due);
        atMost24(due);
        removalAs25th(due);
        batchTo24(due);
        batchOfOneKey(due);
        batchBeyond24(due);
        due.end();
    }

    private static void oneForAKey(Due due) {
        due.sentence("MEMORY has ENTRIES, one for a key");
        TrailStore x = new TrailStore(600);
        x.put(5);
        due.told(x, 5, 1);
        Due.put(x, 5, 1, 1);
        due.told(x, 5, 1);
        x.remove(5);
        due.told(x, 5, 1);
        x.put(6);
        due.told(x, 5, 2);
        x.begin();
        x.put(5);
        x.put(6);
        x.put(7);
        x.put(7);
        x.commit();
        due.told(x, 5, 3);
    }

    private static void theEntry(Due due) {
        due.sentence("the kind, the number, where the record is");
        TrailStore x = new TrailStore(600);
        Due.put(x, 5, 3, 1);
        due.entry(x, 5, 1, 1, 0, 1);
        x.remove(5);
        due.entry(x, 5, 2, 2, 15, 1);
        x.begin();
        x.put(5);
        x.remove(6);
        x.commit();
        due.entry(x, 5, 1, 3, 27, 1);
        due.entry(x, 6, 2, 4, 39, 1);
    }

    private static void atMost24(Due due) {
        due.sentence("24 at most");
        TrailStore x = new TrailStore(4096);
        for (int key = 0; key < 24; key++) {
            x.put(key);
            due.told(x, 4, 0, 5, key + 1);
        }
        x.put(23);
        x.remove(0);
        due.told(x, 4, 0, 5, 24, 6, 0);
        due.is("put of a 25th key", x.put(24), 1);
        due.told(x, 2, 312, 4, 1, 5, 1, 6, 1, 7, 2);
        due.is("entries of the table", x.table(0, 1), 24);
    }

    private static void removalAs25th(Due due) {
        due.sentence("if memory would have more than 24 entries by them: a checkpoint");
        TrailStore x = new TrailStore(4096);
        x.put(50);
        x.checkpoint();
        Due.putAll(x, 0, 24);
        due.told(x, 4, 1, 5, 24);
        due.is("remove(50)", x.remove(50), 1);
        due.told(x, 4, 2, 5, 1, 6, 2);
        due.entry(x, 50, 2, 26, 300, 1);
    }

    private static void batch(TrailStore x, int from, int keys) {
        x.begin();
        Due.putAll(x, from, keys);
        x.commit();
    }

    private static void batchTo24(Due due) {
        due.sentence("more than 24 entries");
        TrailStore x = new TrailStore(4096);
        Due.putAll(x, 0, 16);
        batch(x, 16, 8);
        due.told(x, 4, 0, 5, 24);
        batch(x, 10, 8);
        due.told(x, 4, 0, 5, 24);
        TrailStore y = new TrailStore(4096);
        Due.putAll(y, 0, 17);
        batch(y, 20, 8);
        due.told(y, 2, 204, 4, 1, 5, 8);
        TrailStore z = new TrailStore(4096);
        Due.putAll(z, 0, 17);
        batch(z, 16, 8);
        due.told(z, 4, 0, 5, 24);
    }

    private static void batchOfOneKey(Due due) {
        due.sentence("one for a key: the kind, the number, where the record is; 24 at most");
        TrailStore x = new TrailStore(4096);
        Due.putAll(x, 0, 23);
        x.begin();
        x.put(0);
        for (int i = 0; i < 6; i++) {
            x.put(23);
        }
        x.remove(23);
        due.is("commit() that makes 24", x.commit(), 8);
        due.told(x, 4, 0, 5, 24);
        x.begin();
        x.put(50);
        x.remove(50);
        due.is("commit() that would make 25", x.commit(), 2);
        due.told(x, 4, 1, 5, 1, 6, 1);
        TrailStore y = new TrailStore(4096);
        Due.putAll(y, 0, 22);
        y.begin();
        for (int i = 0; i < 8; i++) {
            y.put(30 + i % 2);
        }
        due.is("commit() of two keys that makes 24", y.commit(), 8);
        due.told(y, 4, 0, 5, 24);
    }

    /** The keys of the batch that memory has do not help: there is one too many. */
    private static void batchBeyond24(Due due) {
        due.sentence("memory would have more than 24 entries by them");
        TrailStore x = new TrailStore(4096);
        Due.putAll(x, 0, 24);
        x.begin();
        Due.putAll(x, 17, 8);
        due.is("commit()", x.commit(), 8);
        due.told(x, 2, 288, 4, 1, 5, 8, 6, 1);
        due.is("entries of the table", x.table(0, 1), 24);
    }
}
