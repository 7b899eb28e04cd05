public final class TermsRootTest {
    public static void main(String[] args) {
        Due due = new Due("Terms: the root");
        version(due);
        bytes(due);
        places(due);
        theRest(due);
        collectingsRoot(due);
        threeWrites(due);
        zerosFirst(due);
        cutVersion(due);
        due.end();
    }

    private static void version(Due due) {
        due.sentence("THE ROOT has a VERSION, from 1 on, and lies in root (version mod 2)");
        TrailStore x = new TrailStore(600);
        due.told(x, 4, 0);
        for (int version = 1; version <= 5; version++) {
            x.checkpoint();
            due.told(x, 4, version);
            int newer = version % 2 * 64;
            due.cells(x, 2, newer, 0, 0, 0, version);
            due.cells(x, 2, 64 - newer, 0, 0, 0, version - 1);
        }
    }

    private static void bytes(Due due) {
        due.sentence("0 the version, 4 the CHECKPOINT, 8 TAIL, 12 the number that a record at the checkpoint would have, "
                + "16 the number of the next table");
        TrailStore x = new TrailStore(600);
        Due.put(x, 7, 3, 1);
        Due.put(x, 9, 1, 1);
        x.checkpoint();
        due.cells(x, 2, 64, 0, 0, 0, 1, 0, 0, 0, 28, 0, 0, 0, 0, 0, 0, 0, 3, 0, 0, 0, 2);
        x.collect(1);
        due.cells(x, 2, 0, 0, 0, 0, 2, 0, 0, 0, 28, 0, 0, 0, 15, 0, 0, 0, 3, 0, 0, 0, 2);
        x.put(8);
        x.checkpoint();
        due.cells(x, 2, 64, 0, 0, 0, 3, 0, 0, 0, 55, 0, 0, 0, 15, 0, 0, 0, 5, 0, 0, 0, 3);
    }

    private static void places(Due due) {
        due.sentence("20 how many tables are in use, 21 their places, the newest first");
        TrailStore x = new TrailStore(4096);
        x.checkpoint();
        due.cells(x, 2, 84, 0, 0);
        for (int i = 0; i < 4; i++) {
            Due.round(x, 11 * i, 11);
        }
        due.cells(x, 2, 84, 1, 5, 0, 0);
        due.cells(x, 2, 20, 3, 2, 1, 0, 0, 0);
        for (int i = 0; i < 7; i++) {
            Due.round(x, 60 + i, 1);
        }
        due.told(x, 4, 12, 6, 5);
        due.cells(x, 2, 20, 5, 2, 1, 0, 4, 5, 0, 0);
        due.cells(x, 2, 84, 4, 1, 0, 4, 5, 0, 0);
    }

    /** Version 7 had four places where version 9, in the same root, has one. */
    private static void theRest(Due due) {
        due.sentence("the rest 0, but at 60 the version once more");
        TrailStore x = new TrailStore(4096);
        for (int i = 0; i < 7; i++) {
            Due.round(x, i, 1);
        }
        due.cells(x, 2, 64 + 20, 4, 2, 1, 0, 4, 0);
        x.checkpoint();
        Due.round(x, 7, 1);
        due.told(x, 4, 9, 6, 1);
        due.cells(x, 2, 64 + 20, 1, 5);
        due.cells(x, 2, 64 + 22, new int[60 - 22]);
        due.cells(x, 2, 124, 0, 0, 0, 9);
        due.cells(x, 2, 25, new int[60 - 25]);
        due.cells(x, 2, 60, 0, 0, 0, 8);
    }

    private static void collectingsRoot(Due due) {
        due.sentence("the root is written (the checkpoint staying), a sync");
        TrailStore x = new TrailStore(600);
        x.put(1);
        x.put(2);
        x.checkpoint();
        x.collect(1);
        due.told(x, 0, 36, 1, 12, 2, 24, 3, 4, 4, 2);
        due.cells(x, 2, 0, 0, 0, 0, 2, 0, 0, 0, 24, 0, 0, 0, 12, 0, 0, 0, 3, 0, 0, 0, 2, 1, 0);
        x.crash(0, 0);
        due.is("open()", x.open(), 1);
        due.told(x, 0, 36, 1, 12, 2, 24, 3, 4, 4, 2);
    }

    /** Version 3 goes over version 1: of 64 bytes at 64, after each of its writes. */
    private static void threeWrites(Due due) {
        due.sentence("To write it: the version is one more; a write of 4 zeros at its 60; a write of its first 60 bytes; "
                + "a write of the 4 at 60");
        for (int n = 1; n <= 4; n++) {
            TrailStore x = new TrailStore(600);
            x.checkpoint();
            x.checkpoint();
            x.fail(n, 9, 0);
            due.is("checkpoint() failing at " + n, x.checkpoint(), n < 4 ? TrailStore.DOWN : 0);
            due.cells(x, 2, 64, 0, 0, 0, n >= 2 ? 3 : 1);
            due.cells(x, 2, 124, 0, 0, 0, n >= 3 ? 3 : 0);
            due.is("open()", x.open(), n < 4 ? 0 : TrailStore.NONE);
            due.told(x, 4, n < 3 ? 2 : 3);
        }
    }

    private static void zerosFirst(Due due) {
        due.sentence("a write of 4 zeros at its 60");
        for (int cut = 0; cut <= 4; cut++) {
            TrailStore x = new TrailStore(600);
            for (int i = 0; i < 4; i++) {
                x.checkpoint();
            }
            x.fail(1, 0, cut);
            due.down("checkpoint()", x.checkpoint());
            due.cells(x, 2, 124, 0, 0, 0, cut == 4 ? 0 : 3);
            due.cells(x, 2, 64, 0, 0, 0, 3);
            x.open();
            due.told(x, 4, 4);
        }
        for (int cut = 0; cut <= 61; cut++) {
            TrailStore x = new TrailStore(600);
            x.put(1);
            x.checkpoint();
            x.put(2);
            x.checkpoint();
            x.put(3);
            x.fail(3, 1, cut);
            due.down("checkpoint()", x.checkpoint());
            due.cells(x, 2, 64, 0, 0, 0, cut >= 4 ? 3 : 1);
            due.is("the checkpoint's byte", x.cell(2, 71), cut >= 8 ? 36 : 12);
            due.is("open()", x.open(), 1);
            due.told(x, 2, 24, 4, 2, 6, 2, 8, 3, 14, 3);
        }
    }

    /** 256 is 0, 0, 1, 0: its last byte does not need to be written; 257's does. */
    private static void cutVersion(Due due) {
        due.sentence("at 60 the version once more");
        for (int version = 255; version <= 257; version++) {
            for (int cut = 0; cut <= 4; cut++) {
                TrailStore x = new TrailStore(512);
                x.put(5);
                for (int i = 0; i < 127; i++) {
                    x.collect(1);
                }
                for (int i = 254; i < version - 1; i++) {
                    x.checkpoint();
                }
                due.told(x, 4, version - 1);
                // the first checkpoint, the 128th with an entry, writes tables of levels 0 and 1 before the root
                x.fail(version == 255 ? 5 : 3, 2, cut);
                due.down("checkpoint()", x.checkpoint());
                x.open();
                boolean whole = cut == 4 || version == 256 && cut == 3;
                due.told(x, 4, whole ? version : version - 1);
                due.is("get(5)", x.get(5), 0);
            }
        }
    }
}
