public final class TermsDiskTest {
    public static void main(String[] args) {
        Due due = new Due("Terms: the disk");
        log(due);
        tables(due);
        roots(due);
        countedOn(due);
        goesRound(due);
        openingGoesRound(due);
        readAtOnce(due);
        lasting(due);
        numbers(due);
        farPlaces(due);
        due.end();
    }

    private static void log(Due due) {
        due.sentence("0 the LOG, ROOM bytes");
        for (int room : new int[] {512, 513, 1000, 4096}) {
            TrailStore x = new TrailStore(room);
            due.is("the last byte of " + room, x.cell(0, room - 1), 0);
            due.none("the byte behind " + room, x.cell(0, room));
            due.is("the byte in the tables' area", x.cell(1, room), 0);
        }
    }

    /** Places 0 to 5 come into use; each begins 1300 bytes behind the one before. */
    private static void tables(Due due) {
        due.sentence("1 the TABLES, 12 PLACES of 1300 bytes");
        TrailStore x = new TrailStore(4096);
        for (int i = 0; i < 4; i++) {
            Due.round(x, 11 * i, 11);
        }
        for (int place = 0; place < 6; place++) {
            due.is("the mark of the table at place " + place, x.cell(1, 1300 * place), 84);
            due.is("its number", x.cell(1, 1300 * place + 7), place + 1);
        }
        for (int place = 6; place < 12; place++) {
            due.is("place " + place + ", which is free", x.cell(1, 1300 * place), 0);
        }
        due.is("the last byte", x.cell(1, 12 * 1300 - 1), 0);
        due.none("the byte behind", x.cell(1, 12 * 1300));
    }

    private static void roots(Due due) {
        due.sentence("2 the ROOTS, two of 64 bytes");
        TrailStore x = new TrailStore(600);
        x.checkpoint();
        x.checkpoint();
        due.cells(x, 2, 0, 0, 0, 0, 2);
        due.cells(x, 2, 60, 0, 0, 0, 2);
        due.cells(x, 2, 64, 0, 0, 0, 1);
        due.cells(x, 2, 124, 0, 0, 0, 1, -1);
    }

    private static void countedOn(Due due) {
        due.sentence("in the log places are counted on and on, byte p being at p mod ROOM");
        for (int room : new int[] {512, 513, 700}) {
            TrailStore x = new TrailStore(room);
            Due.moveTo(x, 2 * room + 5);
            Due.put(x, 2, 2, 77);
            due.told(x, 0, 2 * room + 19, 1, 2 * room + 5);
            due.is("where key 2 is", x.entry(2, 2), 2 * room + 5);
            due.is("its kind", x.cell(0, 5), 1);
            due.is("its key", x.cell(0, 6), 2);
            due.is("its value", x.cell(0, 17), 77);
            x.crash(9, 9);
            due.is("open()", x.open(), 1);
            due.told(x, 0, 2 * room + 19, 1, 2 * room + 5);
            due.value(x, 2, 77, 77);
        }
    }

    /** The header, the value of 5 bytes, and the 12 zeros behind it, each over the log's end once. */
    private static void goesRound(Due due) {
        due.sentence("one write may go round");
        for (int place = 512 - 30; place <= 512; place++) {
            TrailStore x = new TrailStore(512);
            Due.moveTo(x, place);
            int number = x.told(3);
            // from place 495 on this is a byte of the first value, 50
            int behind = x.cell(0, (place + 29) % 512);
            Due.put(x, 2, 5, 99);
            due.log(x, 512, place, 1, 2, 5, 0, 0, 0, 0, number, 0, 0, 0, number, 99, 99, 99, 99, 99);
            due.log(x, 512, place + 17, 0, 0, 0, 0, 0, 0, 0, 0, 0, 0, 0, 0);
            due.is("the byte behind the zeros", x.cell(0, (place + 29) % 512), behind);
            due.told(x, 7, 3);
            x.crash(3, 0);
            due.is("open()", x.open(), 1);
            due.value(x, 2, 99, 99, 99, 99, 99);
            due.is("check()", x.check(), 1);
        }
    }

    private static void openingGoesRound(Due due) {
        due.sentence("Then a write of 12 zeros at HEAD, a sync.");
        for (int place = 512 - 13; place <= 512; place++) {
            TrailStore x = new TrailStore(512);
            Due.moveTo(x, place);
            x.put(2);
            due.is("the header", x.cell(0, (place + 11) % 512) > 0 ? 1 : 0, 1);
            x.crash(1, 11);
            // its 12 bytes lost the last one alone
            x.open();
            due.log(x, 512, place, 0, 0, 0, 0, 0, 0, 0, 0, 0, 0, 0, 0);
            due.told(x, 0, place, 7, 0, 8, 0);
        }
    }

    private static void readAtOnce(Due due) {
        due.sentence("What was written is read at once.");
        TrailStore x = new TrailStore(600);
        Due.put(x, 1, 2, 5);
        due.told(x, 7, 3);
        due.value(x, 1, 5, 5);
        due.cells(x, 0, 0, 1, 1, 2, 0);
        Due.put(x, 1, 1, 6);
        due.value(x, 1, 6);
    }

    private static void lasting(Due due) {
        due.sentence("A SYNC makes all writes up to then LASTING.");
        TrailStore x = new TrailStore(600);
        x.put(1);
        x.put(2);
        x.sync();
        x.put(3);
        due.is("crash(0, 0)", x.crash(0, 0), 2);
        due.is("open()", x.open(), 2);
        due.is("get(1)", x.get(1), 0);
        due.is("get(2)", x.get(2), 0);
        due.none("get(3)", x.get(3));
    }

    /** Collecting one record again and again: two versions each, and five tables for four of them. */
    private static void numbers(Due due) {
        due.sentence("Numbers on the disk have 4 bytes, the highest first.");
        TrailStore x = new TrailStore(512);
        x.put(5);
        for (int i = 0; i < 205; i++) {
            x.collect(1);
        }
        due.told(x, 0, 2472, 1, 2460, 2, 2460, 3, 207, 4, 410, 14, 257);
        due.cells(x, 2, 0, 0, 0, 1, 154, 0, 0, 9, 156, 0, 0, 9, 156, 0, 0, 0, 206, 0, 0, 1, 1);
        due.cells(x, 2, 60, 0, 0, 1, 154);
        int place = 1300 * x.table(0, 2);
        due.is("table(0, 3)", x.table(0, 3), 256);
        due.cells(x, 1, place, 84, 0, 1, 0, 0, 0, 1, 0, 0x10, 0, 0, 0x08, 0, 0, 1, 0);
        due.cells(x, 1, place + 16, 5, 1, 0, 0, 9, 144, 0, 0, 0, 205);
        for (int i = 0; i < 60; i++) {
            x.collect(1);
        }
        due.told(x, 0, 3192, 3, 267);
        due.log(x, 512, 3180, 1, 5, 0, 0, 0, 0, 1, 10, 0, 0, 1, 10);
        x.crash(0, 0);
        due.is("open()", x.open(), 1);
        due.told(x, 0, 3192, 1, 3180, 3, 267, 4, 530);
    }

    /** 24 values of 64 bytes, moved 40 times: the last ones lie behind place 65536. */
    private static void farPlaces(Due due) {
        due.sentence("in the log places are counted on and on");
        TrailStore x = new TrailStore(4096);
        for (int key = 0; key < 24; key++) {
            Due.put(x, key, 64, key);
        }
        for (int i = 0; i < 40; i++) {
            x.collect(1000);
        }
        int head = 41 * 24 * 76;
        due.told(x, 0, head, 1, head - 24 * 76, 3, 41 * 24 + 1, 8, 24);
        x.checkpoint();
        int where = head - 76;
        due.is("where key 23 is", x.entry(23, 2), where);
        int table = 1300 * x.table(0, 2);
        due.cells(x, 1, table + 16 + 230, 23, 1, 0, 1, (where - 65536) / 256, where % 256);
        x.crash(0, 0);
        x.open();
        due.is("get(23)", x.get(23), 64);
        due.is("read(63)", x.read(63), 23);
        due.is("check()", x.check(), 1);
    }
}
