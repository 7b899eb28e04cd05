public final class Promise05BeginTest {
    public static void main(String[] args) {
        Due due = new Due("promise 5, begin");
        TrailStore x = new TrailStore(600);
        due.told(x, 13, -1);
        due.is("begin()", x.begin(), 1);
        due.told(x, 13, 0);
        x.put(1);
        due.is("begin() once more", x.begin(), 0);
        due.told(x, 13, 1, 7, 0);
        x.commit();
        due.is("begin() behind a commit", x.begin(), 1);
        x.cancel();
        due.is("begin() behind a cancel", x.begin(), 1);
        x.commit();
        due.is("begin() behind a commit of nothing", x.begin(), 1);
        x.put(2);
        x.crash(9, 0);
        due.is("begin() down", x.begin(), TrailStore.DOWN);
        x.open();
        due.told(x, 13, -1, 8, 1);
        due.is("begin() after opening", x.begin(), 1);
        due.told(x, 13, 0);
        due.end();
    }
}
