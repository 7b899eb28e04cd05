public final class TermsBatchTest {
    public static void main(String[] args) {
        Due due = new Due("Terms: batches");
        wholeOrNotAtAll(due);
        eightAtEachWrite(due);
        roundTheEnd(due);
        failing(due);
        eightAtMost(due);
        beginnings(due);
        due.end();
    }

    /** Two records of 13 bytes are six writes: before the last one is whole there is neither. */
    private static void wholeOrNotAtAll(Due due) {
        due.sentence("batches are there as a whole or not at all");
        for (int keep = 0; keep <= 6; keep++) {
            for (int cut = 0; cut <= 12; cut++) {
                TrailStore x = new TrailStore(600);
                Due.put(x, 1, 1, 1);
                x.sync();
                x.begin();
                Due.put(x, 1, 1, 2);
                Due.put(x, 2, 1, 3);
                x.commit();
                due.is("crash(" + keep + ", " + cut + ")", x.crash(keep, cut), 6);
                boolean whole = keep == 6 || keep == 5 && cut == 12;
                due.is("open()", x.open(), whole ? 3 : 1);
                due.value(x, 1, whole ? 2 : 1);
                due.is("get(2)", x.get(2), whole ? 1 : TrailStore.NONE);
                due.told(x, 0, whole ? 39 : 13, 3, whole ? 4 : 2);
            }
        }
    }

    private static void eightAtEachWrite(Due due) {
        due.sentence("as a whole or not at all");
        for (int keep = 0; keep <= 21; keep++) {
            TrailStore x = new TrailStore(600);
            Due.putAll(x, 0, 4);
            x.sync();
            x.begin();
            for (int i = 0; i < 4; i++) {
                x.remove(i);
                Due.put(x, 10 + i, 1, i);
            }
            x.commit();
            // four removals of two writes and four values of three
            due.is("crash(" + keep + ", 0)", x.crash(keep, 0), 20);
            boolean whole = keep >= 20;
            due.is("open()", x.open(), whole ? 12 : 4);
            due.told(x, 8, 4);
            due.is("next(0)", x.next(0), whole ? 10 : 0);
            due.is("next(4)", x.next(4), whole ? 10 : TrailStore.NONE);
        }
    }

    private static void roundTheEnd(Due due) {
        due.sentence("one write may go round");
        for (int place = 400; place <= 512; place += 9) {
            for (int keep = 22; keep <= 24; keep++) {
                TrailStore x = new TrailStore(512);
                Due.moveTo(x, place);
                x.begin();
                for (int i = 0; i < 8; i++) {
                    Due.put(x, 20 + i, 2, 30 + i);
                }
                due.is("commit()", x.commit(), 8);
                due.is("crash(" + keep + ", 11)", x.crash(keep, 11), 24);
                due.is("open()", x.open(), keep == 24 ? 8 : 0);
                due.told(x, 0, place + (keep == 24 ? 112 : 0), 8, keep == 24 ? 8 : 0);
                if (keep == 24) {
                    due.value(x, 20, 30, 30);
                    due.value(x, 27, 37, 37);
                }
            }
        }
    }

    /** The commit needs a pass; at each of its writes the power fails, with all or nothing kept. */
    private static void failing(Due due) {
        due.sentence("whenever the power fails, what was synced is there again, and of what came behind a beginning");
        for (int n = 1; n <= 60; n++) {
            for (int keep = 0; keep <= 99; keep += 99) {
                TrailStore x = new TrailStore(512);
                for (int i = 0; i < 24; i++) {
                    Due.put(x, i % 6, 1, i);
                }
                x.sync();
                x.begin();
                Due.put(x, 0, 1, 100);
                x.remove(1);
                Due.put(x, 7, 1, 100);
                x.fail(n, keep, 0);
                int answer = x.commit();
                // a checkpoint of 4, six records of 3 writes, the root: 25; the batch is 8 writes
                due.is("commit() failing at " + n, answer, n <= 33 ? TrailStore.DOWN : 3);
                if (n <= 33) {
                    x.open();
                }
                boolean there = n > 33 || n == 33 && keep == 99;
                due.value(x, 0, there ? 100 : 18);
                due.is("get(1)", x.get(1), there ? TrailStore.NONE : 1);
                due.is("get(7)", x.get(7), there ? 1 : TrailStore.NONE);
                due.value(x, 5, 23);
                due.is("check()", x.check(), 1);
            }
        }
    }

    private static void eightAtMost(Due due) {
        due.sentence("when there is no such key, or the batch has 8");
        TrailStore x = new TrailStore(600);
        x.begin();
        for (int i = 1; i <= 8; i++) {
            due.is("record " + i, i % 2 == 0 ? x.put(i) : x.remove(i), i);
        }
        due.none("put(9)", x.put(9));
        due.none("remove(9)", x.remove(9));
        due.told(x, 13, 8);
        due.is("commit()", x.commit(), 8);
        due.told(x, 3, 9, 5, 8);
    }

    /** What was synced is there again, and of what came behind the first ones. */
    private static void beginnings(Due due) {
        due.sentence("and of what came behind a beginning");
        for (int keep = 0; keep <= 30; keep++) {
            TrailStore x = new TrailStore(600);
            Due.put(x, 1, 2, 100);
            x.sync();
            for (int i = 0; i < 9; i++) {
                Due.put(x, 1, 1, i);
            }
            due.is("crash(" + keep + ", 0)", x.crash(keep, 0), 27);
            int kept = Math.min(keep / 3, 9);
            due.is("open()", x.open(), 1 + kept);
            if (kept == 0) {
                due.value(x, 1, 100, 100);
            } else {
                due.value(x, 1, kept - 1);
            }
            due.told(x, 0, 14 + 13 * kept, 3, 2 + kept, 7, 0);
            due.is("check()", x.check(), 1);
        }
    }
}
