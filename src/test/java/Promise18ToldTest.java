public final class Promise18ToldTest {
    public static void main(String[] args) {
        Due due = new Due("promise 18, told");
        TrailStore x = new TrailStore(600);
        Due.put(x, 5, 2, 1);
        Due.put(x, 7, 3, 1);
        x.type(1L, 4);
        due.told(x, 0, 29, 1, 0, 2, 0, 3, 3, 4, 0, 5, 2, 6, 0, 7, 6, 8, 2, 9, 29, 10, 0, 11, 0, 12, 4, 13, -1, 14, 1);
        x.begin();
        x.put(8);
        x.remove(9);
        due.told(x, 12, 0, 13, 2, 0, 29, 8, 2);
        x.commit();
        due.told(x, 0, 57, 3, 5, 5, 4, 7, 11, 8, 3, 9, 45, 13, -1);
        x.remove(5);
        due.told(x, 0, 69, 5, 4, 8, 2, 9, 31);
        x.checkpoint();
        due.told(x, 0, 69, 2, 69, 4, 1, 5, 0, 6, 1, 7, 0, 8, 2, 9, 31, 14, 2);
        x.collect(2);
        due.told(x, 0, 84, 1, 29, 2, 69, 3, 7, 4, 2, 5, 1, 8, 2, 9, 31);
        for (int what : new int[] {-1, 15, 16, Integer.MIN_VALUE, Integer.MAX_VALUE}) {
            due.is("told(" + what + ")", x.told(what), TrailStore.NONE);
        }
        tablesLookedInto(due);
        down(due);
        due.end();
    }

    /** A table of 5 and 7 has the bits of 4, too, but not those of 9; one of 0 has those of 32. */
    private static void tablesLookedInto(Due due) {
        TrailStore x = new TrailStore(600);
        x.put(5);
        x.put(7);
        x.checkpoint();
        x.put(0);
        x.checkpoint();
        looked(due, x, 7, 1, 1);
        looked(due, x, 0, 1, 0);
        looked(due, x, 9, 0, 2);
        looked(due, x, 4, 1, 1);
        looked(due, x, 32, 1, 1);
        x.entry(5, 0);
        x.next(0);
        x.remove(1);
        due.told(x, 8, 3, 10, 1, 11, 1);
        x.put(32);
        due.told(x, 10, 1, 11, 1);
        looked(due, x, 32, 0, 0);
        looked(due, x, 4, 1, 1);
        looked(due, x, -1, 0, 0);
        looked(due, x, 4, 1, 1);
        looked(due, x, 120, 0, 0);
        x.remove(5);
        looked(due, x, 5, 0, 0);
        x.checkpoint();
        // the newest table has 5 and 32: bits 3, 28, 0 and 5
        looked(due, x, 5, 1, 0);
        looked(due, x, 0, 2, 0);
        looked(due, x, 7, 1, 2);
        looked(due, x, 4, 1, 2);
        x.crash(0, 0);
        due.is("get(0) down", x.get(0), TrailStore.DOWN);
        due.told(x, 10, 1, 11, 2);
        x.open();
        due.told(x, 10, 0, 11, 0);
        looked(due, x, 0, 2, 0);
    }

    private static void looked(Due due, TrailStore x, int key, int into, int past) {
        x.get(key);
        due.is("told(10) after get(" + key + ")", x.told(10), into);
        due.is("told(11) after get(" + key + ")", x.told(11), past);
    }

    private static void down(Due due) {
        TrailStore x = new TrailStore(600);
        x.crash(0, 0);
        for (int what = -2; what < 18; what++) {
            due.is("told(" + what + ") down", x.told(what), what == 10 || what == 11 ? 0 : TrailStore.DOWN);
        }
        due.is("told of the least number, down", x.told(Integer.MIN_VALUE), TrailStore.DOWN);
    }
}
