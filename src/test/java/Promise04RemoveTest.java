public final class Promise04RemoveTest {
    public static void main(String[] args) {
        Due due = new Due("promise 4, remove");
        ordinary(due);
        inBatch(due);
        wrongKeys(due);
        full(due);
        due.end();
    }

    private static void ordinary(Due due) {
        TrailStore x = new TrailStore(600);
        due.is("remove of what never was there", x.remove(3), 0);
        due.told(x, 0, 0, 5, 0, 7, 0);
        Due.put(x, 3, 4, 1);
        x.type(9L, 2);
        due.is("remove(3)", x.remove(3), 1);
        due.cells(x, 0, 16, 2, 3, 0, 0, 0, 0, 0, 2, 0, 0, 0, 2, 0);
        due.told(x, 0, 28, 3, 3, 5, 1, 7, 5, 8, 0, 9, 0, 12, 2);
        due.is("get(3)", x.get(3), TrailStore.NONE);
        due.is("remove(3) again", x.remove(3), 0);
        due.told(x, 0, 28, 7, 5);
        x.checkpoint();
        due.is("remove(3) with the removal in a table", x.remove(3), 0);
        x.put(3);
        due.is("put again and removed", x.remove(3), 1);
        x.put(119);
        x.checkpoint();
        due.is("remove of a key in a table", x.remove(119), 1);
        due.is("get(119)", x.get(119), TrailStore.NONE);
        x.crash(9, 0);
        x.open();
        due.is("get(119) after opening", x.get(119), TrailStore.NONE);
    }

    private static void inBatch(Due due) {
        TrailStore x = new TrailStore(600);
        x.put(1);
        x.begin();
        x.type(9L, 2);
        due.is("remove(1)", x.remove(1), 1);
        due.is("remove of what is not there", x.remove(2), 2);
        due.is("get(1) before the commit", x.get(1), 0);
        for (int i = 3; i <= 8; i++) {
            due.is("remove again", x.remove(1), i);
        }
        due.is("the 9th", x.remove(1), TrailStore.NONE);
        due.told(x, 0, 12, 12, 2, 13, 8);
        due.is("commit()", x.commit(), 8);
        due.told(x, 0, 108, 5, 2, 12, 2);
        due.is("the kind of key 2", x.entry(2, 0), 2);
    }

    private static void wrongKeys(Due due) {
        TrailStore x = new TrailStore(600);
        for (int key : new int[] {-1, 120, Integer.MIN_VALUE, Integer.MAX_VALUE}) {
            due.is("remove(" + key + ")", x.remove(key), TrailStore.NONE);
        }
        x.begin();
        due.is("remove(120) in a batch", x.remove(120), TrailStore.NONE);
        due.told(x, 13, 0);
        x.crash(0, 0);
        due.is("remove(1) down", x.remove(1), TrailStore.DOWN);
        due.is("remove(120) down", x.remove(120), TrailStore.DOWN);
    }

    private static void full(Due due) {
        TrailStore x = new TrailStore(512);
        for (int key = 0; key < 9; key++) {
            Due.put(x, key, 24, key);
        }
        x.type(1L, 1);
        due.is("remove with no room", x.remove(0), TrailStore.FULL);
        due.is("get(0)", x.get(0), 24);
        due.told(x, 8, 9, 12, 1);
        due.is("check()", x.check(), 1);
        TrailStore y = new TrailStore(600);
        y.put(1);
        y.fail(2, 0, 0);
        due.is("remove at whose 2nd write the power fails", y.remove(1), TrailStore.DOWN);
    }
}
