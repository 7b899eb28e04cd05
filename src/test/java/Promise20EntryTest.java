public final class Promise20EntryTest {
    public static void main(String[] args) {
        Due due = new Due("promise 20, entry");
        TrailStore x = new TrailStore(600);
        Due.put(x, 0, 5, 1);
        Due.put(x, 119, 1, 1);
        entry(due, x, 0, 1, 1, 0, 1);
        entry(due, x, 119, 1, 2, 17, 1);
        x.remove(0);
        entry(due, x, 0, 2, 3, 30, 1);
        x.checkpoint();
        entry(due, x, 0, 2, 3, 30, 0);
        entry(due, x, 119, 1, 2, 17, 0);
        x.put(0);
        entry(due, x, 0, 1, 4, 42, 1);
        x.checkpoint();
        entry(due, x, 0, 1, 4, 42, 0);
        x.begin();
        x.put(3);
        x.put(4);
        due.is("entry(3, 0) in a batch", x.entry(3, 0), TrailStore.NONE);
        x.commit();
        entry(due, x, 3, 1, 5, 54, 1);
        entry(due, x, 4, 1, 6, 66, 1);
        for (int what : new int[] {-1, 4, 5, Integer.MIN_VALUE, Integer.MAX_VALUE}) {
            due.is("entry(0, " + what + ")", x.entry(0, what), TrailStore.NONE);
        }
        for (int key : new int[] {-1, 1, 118, 120, Integer.MIN_VALUE, Integer.MAX_VALUE}) {
            for (int what = -1; what < 5; what++) {
                due.is("entry(" + key + ", " + what + ")", x.entry(key, what), TrailStore.NONE);
            }
        }
        x.collect(1000);
        entry(due, x, 119, 1, 7, 78, 1);
        entry(due, x, 0, 1, 8, 91, 1);
        x.crash(0, 0);
        due.is("entry(0, 0) down", x.entry(0, 0), TrailStore.DOWN);
        due.is("entry(120, 9) down", x.entry(120, 9), TrailStore.DOWN);
        x.open();
        entry(due, x, 119, 1, 7, 78, 1);
        due.end();
    }

    private static void entry(Due due, TrailStore x, int key, int... want) {
        for (int what = 0; what < want.length; what++) {
            due.is("entry(" + key + ", " + what + ")", x.entry(key, what), want[what]);
        }
    }
}
