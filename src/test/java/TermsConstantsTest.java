public final class TermsConstantsTest {
    public static void main(String[] args) {
        Due due = new Due("Terms: the constants");
        due.sentence("`NONE = -1`");
        due.is("NONE", TrailStore.NONE, -1);
        due.sentence("`DOWN = -2`");
        due.is("DOWN", TrailStore.DOWN, -2);
        due.sentence("`FULL = -3`");
        due.is("FULL", TrailStore.FULL, -3);
        allAreDown(due);
        othersAreNot(due);
        nothingIsDone(due);
        due.end();
    }

    private static TrailStore downOne() {
        TrailStore x = new TrailStore(600);
        Due.put(x, 1, 2, 9);
        x.checkpoint();
        x.put(2);
        x.sync();
        x.get(1);
        x.crash(0, 0);
        return x;
    }

    private static void allAreDown(Due due) {
        due.sentence("(While it is, calls of which DOWN is told answer that before all else, whatever the numbers.)");
        TrailStore x = downOne();
        for (int n : new int[] {1, 0, -1, 9, 120, 1001, Integer.MIN_VALUE, Integer.MAX_VALUE}) {
            due.down("type(1, " + n + ")", x.type(1L, n));
            due.down("put(" + n + ")", x.put(n));
            due.down("remove(" + n + ")", x.remove(n));
            due.down("get(" + n + ")", x.get(n));
            due.down("next(" + n + ")", x.next(n));
            due.down("collect(" + n + ")", x.collect(n));
            due.down("crash(" + n + ", 0)", x.crash(n, 0));
            due.down("crash(0, " + n + ")", x.crash(0, n));
            due.down("fail(" + n + ", 0, 0)", x.fail(n, 0, 0));
            due.down("fail(1, " + n + ", 0)", x.fail(1, n, 0));
            due.down("fail(1, 0, " + n + ")", x.fail(1, 0, n));
            due.down("told(" + n + ")", x.told(n));
            due.down("table(" + n + ", 0)", x.table(n, 0));
            due.down("table(0, " + n + ")", x.table(0, n));
            due.down("entry(" + n + ", 0)", x.entry(n, 0));
            due.down("entry(1, " + n + ")", x.entry(1, n));
        }
        due.down("begin()", x.begin());
        due.down("commit()", x.commit());
        due.down("cancel()", x.cancel());
        due.down("sync()", x.sync());
        due.down("checkpoint()", x.checkpoint());
        due.down("spare()", x.spare());
        due.down("check()", x.check());
    }

    private static void othersAreNot(Due due) {
        due.sentence("calls of which DOWN is told");
        TrailStore x = downOne();
        due.is("read(1)", x.read(1), 9);
        due.none("read(2)", x.read(2));
        due.is("cell(0, 1)", x.cell(0, 1), 1);
        due.none("cell(3, 0)", x.cell(3, 0));
        due.told(x, 10, 1, 11, 0);
        due.is("open()", x.open(), 1);
    }

    private static void nothingIsDone(Due due) {
        due.sentence("The power failed: the store is down.");
        TrailStore x = downOne();
        x.type(1L, 1);
        x.begin();
        x.put(3);
        x.commit();
        x.remove(1);
        x.checkpoint();
        x.collect(1000);
        x.fail(1, 0, 0);
        x.crash(0, 0);
        x.sync();
        due.is("open()", x.open(), 1);
        due.told(x, 0, 26, 1, 0, 2, 14, 3, 3, 4, 1, 5, 1, 6, 1, 7, 0, 8, 2, 12, 0, 13, -1, 14, 2);
        due.is("spare()", x.spare(), 0);
    }
}
