public final class Promise07CancelTest {
    public static void main(String[] args) {
        Due due = new Due("promise 7, cancel");
        TrailStore x = new TrailStore(600);
        due.is("cancel() without a batch", x.cancel(), TrailStore.NONE);
        x.begin();
        due.is("cancel() of nothing", x.cancel(), 0);
        due.told(x, 13, -1);
        x.begin();
        Due.put(x, 1, 2, 3);
        x.remove(2);
        x.type(5L, 4);
        due.is("cancel()", x.cancel(), 2);
        due.told(x, 0, 0, 5, 0, 7, 0, 12, 4, 13, -1);
        due.is("get(1)", x.get(1), TrailStore.NONE);
        due.is("cancel() again", x.cancel(), TrailStore.NONE);
        due.is("commit() behind it", x.commit(), TrailStore.NONE);
        due.is("put(1), at once", x.put(1), 1);
        due.value(x, 1, 0, 0, 0, 5);
        x.begin();
        x.crash(0, 0);
        due.is("cancel() down", x.cancel(), TrailStore.DOWN);
        x.open();
        due.is("cancel() after opening", x.cancel(), TrailStore.NONE);
        due.end();
    }
}
