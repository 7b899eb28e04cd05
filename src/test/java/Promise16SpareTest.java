public final class Promise16SpareTest {
    public static void main(String[] args) {
        Due due = new Due("Promise 16: spare");
        noMore(due);
        nothing(due);
        down(due);
        due.end();
    }

    private static void noMore(Due due) {
        due.sentence("What was told by fail() is told no more: 1");
        TrailStore x = new TrailStore(600);
        x.fail(1, 0, 0);
        due.is("spare()", x.spare(), 1);
        due.is("put(1)", x.put(1), 1);
        x.fail(3, 0, 0);
        x.put(2);
        due.is("spare() with one write left", x.spare(), 1);
        due.is("put(3)", x.put(3), 1);
        x.fail(1000, 0, 0);
        due.is("spare() of the thousandth", x.spare(), 1);
        due.told(x, 0, 36, 7, 6);
    }

    private static void nothing(Due due) {
        due.sentence("0 when nothing was.");
        TrailStore x = new TrailStore(600);
        due.is("spare() of a new object", x.spare(), 0);
        x.fail(1, 0, 0);
        x.spare();
        due.is("spare() again", x.spare(), 0);
        x.fail(1001, 0, 0);
        due.is("spare() of what was refused", x.spare(), 0);
        x.fail(1, 0, 0);
        x.put(4);
        x.open();
        due.is("spare() of what has happened", x.spare(), 0);
        x.fail(1, 0, 0);
        x.crash(0, 0);
        x.open();
        due.is("spare() of what is gone", x.spare(), 0);
        due.is("put(5)", x.put(5), 1);
    }

    private static void down(Due due) {
        due.sentence("0 when nothing was. DOWN.");
        TrailStore x = new TrailStore(600);
        x.fail(1, 0, 0);
        x.put(4);
        due.down("spare() at whose write the power failed", x.spare());
        x.open();
        x.crash(0, 0);
        due.down("spare()", x.spare());
    }
}
