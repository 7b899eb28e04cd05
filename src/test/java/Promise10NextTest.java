public final class Promise10NextTest {
    public static void main(String[] args) {
        Due due = new Due("Promise 10: next");
        least(due);
        there(due);
        none(due);
        down(due);
        due.end();
    }

    private static void least(Due due) {
        due.sentence("The least key from one on that is there");
        TrailStore x = new TrailStore(600);
        x.put(0);
        x.put(119);
        x.put(50);
        x.checkpoint();
        x.put(60);
        due.is("next(0)", x.next(0), 0);
        due.is("next(1)", x.next(1), 50);
        due.is("next(50)", x.next(50), 50);
        due.is("next(51)", x.next(51), 60);
        due.is("next(60)", x.next(60), 60);
        due.is("next(61)", x.next(61), 119);
        due.is("next(119)", x.next(119), 119);
        due.is("next(-1)", x.next(-1), 0);
        due.is("next of the least number", x.next(Integer.MIN_VALUE), 0);
    }

    private static void there(Due due) {
        due.sentence("A key is THERE if it has an entry of kind 1.");
        TrailStore x = new TrailStore(600);
        Due.putAll(x, 0, 3);
        x.checkpoint();
        x.remove(0);
        due.is("next(0) with a removal in memory", x.next(0), 1);
        x.checkpoint();
        due.is("next(0) with a removal in a table", x.next(0), 1);
        x.remove(2);
        due.none("next(2)", x.next(2));
        x.begin();
        x.put(10);
        due.none("next(2) with a batch", x.next(2));
        x.commit();
        due.is("next(2) behind it", x.next(2), 10);
        x.put(0);
        due.is("next(0), put again", x.next(0), 0);
    }

    private static void none(Due due) {
        due.sentence("The least key from one on that is there; NONE.");
        TrailStore x = new TrailStore(600);
        due.none("next(0) of nothing", x.next(0));
        due.none("next(-1) of nothing", x.next(-1));
        x.put(119);
        x.put(118);
        x.remove(119);
        due.is("next(118)", x.next(118), 118);
        due.none("next(119)", x.next(119));
        x.put(119);
        for (int key : new int[] {120, 121, 256, Integer.MAX_VALUE}) {
            due.none("next(" + key + ")", x.next(key));
        }
    }

    private static void down(Due due) {
        due.sentence("The least key from one on that is there; NONE. DOWN.");
        TrailStore x = new TrailStore(600);
        x.put(3);
        x.crash(9, 9);
        for (int key : new int[] {0, 3, 4, -1, 120}) {
            due.down("next(" + key + ")", x.next(key));
        }
        x.open();
        due.is("next(0) after opening", x.next(0), 3);
    }
}
