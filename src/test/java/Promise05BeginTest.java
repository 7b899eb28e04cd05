public final class Promise05BeginTest {
    public static void main(String[] args) {
        Due due = new Due("Promise 5: begin");
        begins(due);
        begun(due);
        down(due);
        due.end();
    }

    private static void begins(Due due) {
        due.sentence("A batch begins: 1");
        TrailStore x = new TrailStore(600);
        x.type(3L, 1);
        due.told(x, 13, -1);
        due.is("begin()", x.begin(), 1);
        due.told(x, 7, 0, 12, 1, 13, 0);
        x.put(1);
        x.commit();
        due.is("begin() behind a commit", x.begin(), 1);
        due.told(x, 13, 0);
        x.put(1);
        x.cancel();
        due.is("begin() behind a cancel", x.begin(), 1);
        due.told(x, 13, 0);
        x.commit();
        due.is("begin() behind a commit of nothing", x.begin(), 1);
        x.cancel();
        due.is("begin() behind a cancel of nothing", x.begin(), 1);
    }

    private static void begun(Due due) {
        due.sentence("0 when one is begun");
        TrailStore x = new TrailStore(600);
        x.begin();
        due.is("begin() once more", x.begin(), 0);
        due.told(x, 13, 0);
        Due.putAll(x, 0, 8);
        due.is("begin() with 8 records", x.begin(), 0);
        due.told(x, 13, 8);
        due.is("commit()", x.commit(), 8);
        due.told(x, 8, 8);
    }

    private static void down(Due due) {
        due.sentence("0 when one is begun. DOWN.");
        TrailStore x = new TrailStore(600);
        x.begin();
        x.crash(0, 0);
        due.down("begin()", x.begin());
        x.open();
        due.told(x, 13, -1);
        due.is("begin() after opening", x.begin(), 1);
    }
}
