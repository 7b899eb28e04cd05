public final class Promise16SpareTest {
    public static void main(String[] args) {
        Due due = new Due("promise 16, spare");
        TrailStore x = new TrailStore(600);
        due.is("spare() of nothing", x.spare(), 0);
        x.fail(1, 0, 0);
        due.is("spare()", x.spare(), 1);
        due.is("spare() again", x.spare(), 0);
        due.is("put(1)", x.put(1), 1);
        x.fail(3, 0, 0);
        x.put(2);
        due.is("spare() of what was near", x.spare(), 1);
        due.is("put(3)", x.put(3), 1);
        x.fail(1, 0, 0);
        x.put(4);
        due.is("spare() down", x.spare(), TrailStore.DOWN);
        x.open();
        due.is("spare() of what has happened", x.spare(), 0);
        x.fail(1, 0, 0);
        x.crash(0, 0);
        x.open();
        due.is("spare() of what is gone", x.spare(), 0);
        due.end();
    }
}
