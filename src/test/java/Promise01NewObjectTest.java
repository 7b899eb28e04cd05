public final class Promise01NewObjectTest {
    public static void main(String[] args) {
        Due due = new Due("Promise 1: A new object");
        roomAsTold(due);
        tooSmall(due);
        tooLarge(due);
        diskIsZero(due);
        opened(due);
        twoAreApart(due);
        due.end();
    }

    /** The log has so many bytes, and so many of them are free for a first record's likes. */
    private static void room(Due due, int told, int room) {
        TrailStore x = new TrailStore(told);
        due.is("the last byte of the log of " + told, x.cell(0, room - 1), 0);
        due.none("the byte behind the log of " + told, x.cell(0, room));
    }

    private static void roomAsTold(Due due) {
        due.sentence("ROOM is room");
        for (int room : new int[] {512, 513, 600, 1000, 4095, 4096}) {
            room(due, room, room);
        }
    }

    private static void tooSmall(Due due) {
        due.sentence("but 512 when that is less");
        for (int room : new int[] {511, 510, 1, 0, -1, -512, -4097, Integer.MIN_VALUE}) {
            room(due, room, 512);
        }
        TrailStore x = new TrailStore(511);
        for (int key = 0; key < 4; key++) {
            Due.put(x, key, 64, 1);
        }
        due.is("put to the last free byte of 512", Due.put(x, 4, 8, 1), 1);
        due.told(x, 0, 324, 1, 0);
    }

    private static void tooLarge(Due due) {
        due.sentence("and 4096 when it is more");
        for (int room : new int[] {4097, 4098, 8192, 65536 + 600, Integer.MAX_VALUE}) {
            room(due, room, 4096);
        }
        TrailStore x = new TrailStore(4097);
        for (int i = 0; i < 325; i++) {
            x.put(0);
        }
        due.told(x, 0, 3900, 1, 0);
        due.is("put behind the last free byte of 4096", x.put(0), 1);
        due.told(x, 0, 3924, 1, 3900);
    }

    private static void diskIsZero(Due due) {
        due.sentence("The disk is 0");
        int[] bytes = {700, 15600, 128};
        for (int area = 0; area < 3; area++) {
            for (int from = 0; from < bytes[area]; from += 500) {
                TrailStore x = new TrailStore(700);
                for (int i = from; i < from + 500 && i < bytes[area]; i++) {
                    due.is("cell(" + area + ", " + i + ")", x.cell(area, i), 0);
                }
            }
        }
    }

    private static void opened(Due due) {
        due.sentence("the store is opened on it");
        TrailStore x = new TrailStore(600);
        due.none("open()", x.open());
        due.told(x, 0, 0, 1, 0, 2, 0, 3, 1, 4, 0, 5, 0, 6, 0, 7, 0, 8, 0, 9, 0, 10, 0, 11, 0, 12, 0, 13, -1, 14, 1);
        due.is("spare()", x.spare(), 0);
        due.none("read(0)", x.read(0));
        due.none("next(0)", x.next(0));
        due.is("table(0, 1)", x.table(0, 1), 0);
        due.none("entry(0, 0)", x.entry(0, 0));
        due.is("check()", x.check(), 1);
        due.is("sync()", x.sync(), 0);
    }

    private static void twoAreApart(Due due) {
        due.sentence("All memory is the store's own, made with it.");
        TrailStore one = new TrailStore(600);
        TrailStore other = new TrailStore(600);
        Due.put(one, 3, 2, 9);
        one.type(1L, 1);
        one.begin();
        one.fail(5, 0, 0);
        due.none("get(3) of another object", other.get(3));
        due.told(other, 0, 0, 7, 0, 12, 0, 13, -1);
        due.is("spare() of another object", other.spare(), 0);
        one.crash(0, 0);
        due.told(other, 0, 0);
    }
}
