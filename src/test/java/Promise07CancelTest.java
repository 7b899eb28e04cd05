public final class Promise07CancelTest {
    public static void main(String[] args) {
        Due due = new Due("Promise 7: cancel");
        howMany(due);
        withoutOne(due);
        down(due);
        due.end();
    }

    private static void howMany(Due due) {
        due.sentence("The batch is over, nothing is written: how many records it had");
        for (int count = 0; count <= 8; count++) {
            TrailStore x = new TrailStore(600);
            x.begin();
            for (int i = 0; i < count; i++) {
                if (i % 3 == 2) {
                    x.remove(i);
                } else {
                    Due.put(x, i, 2, 3);
                }
            }
            x.type(5L, 4);
            due.is("cancel() of " + count, x.cancel(), count);
            due.told(x, 0, 0, 3, 1, 5, 0, 7, 0, 12, 4, 13, -1);
            due.none("get(0)", x.get(0));
            due.is("put(1), which is written at once", x.put(1), 1);
            due.value(x, 1, 0, 0, 0, 5);
        }
    }

    private static void withoutOne(Due due) {
        due.sentence("NONE without one.");
        TrailStore x = new TrailStore(600);
        due.none("cancel()", x.cancel());
        x.begin();
        x.cancel();
        due.none("cancel() again", x.cancel());
        x.begin();
        x.put(1);
        x.commit();
        due.none("cancel() behind a commit", x.cancel());
        due.told(x, 8, 1);
    }

    private static void down(Due due) {
        due.sentence("NONE without one. DOWN.");
        TrailStore x = new TrailStore(600);
        x.begin();
        x.put(1);
        x.crash(0, 0);
        due.down("cancel()", x.cancel());
        x.open();
        due.none("cancel() after opening", x.cancel());
    }
}
