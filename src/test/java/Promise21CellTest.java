public final class Promise21CellTest {
    public static void main(String[] args) {
        Due due = new Due("Promise 21: cell");
        bytes(due);
        asWritten(due);
        downOrNot(due);
        noByte(due);
        noArea(due);
        due.end();
    }

    private static TrailStore some() {
        TrailStore x = new TrailStore(700);
        x.type(0x80FF7FL, 3);
        x.put(3);
        x.checkpoint();
        x.put(3);
        x.checkpoint();
        return x;
    }

    private static void bytes(Due due) {
        due.sentence("Byte i of an area of the disk (0 .. 255)");
        TrailStore x = some();
        due.cells(x, 0, 0, 1, 3, 3, 0, 0, 0, 0, 1, 0, 0, 0, 1, 128, 255, 127, 1, 3, 0);
        due.cells(x, 1, 0, 84, 0, 1, 0, 0, 0, 0, 1);
        due.cells(x, 1, 1300, 84, 0, 1, 0, 0, 0, 0, 2);
        due.cells(x, 1, 1316, 3, 1, 0, 0, 0, 15, 0, 0, 0, 2, 0);
        due.cells(x, 2, 0, 0, 0, 0, 2);
        due.cells(x, 2, 64, 0, 0, 0, 1);
        due.cells(x, 2, 124, 0, 0, 0, 1);
    }

    private static void asWritten(Due due) {
        due.sentence("as what is written is read");
        TrailStore x = some();
        x.put(4);
        due.is("the key, which is not lasting", x.cell(0, 28), 4);
        x.begin();
        x.put(5);
        due.is("the next key, which is in a batch", x.cell(0, 40), 0);
        x.commit();
        due.is("the next key", x.cell(0, 40), 5);
    }

    private static void downOrNot(Due due) {
        due.sentence("down or not");
        TrailStore x = some();
        x.put(4);
        x.crash(0, 0);
        due.is("what is not kept", x.cell(0, 28), 0);
        due.is("cell(1, 1300)", x.cell(1, 1300), 84);
        due.is("cell(2, 3)", x.cell(2, 3), 2);
        due.none("cell(0, 700)", x.cell(0, 700));
        due.none("cell(0, -1)", x.cell(0, -1));
        due.none("cell(3, 0)", x.cell(3, 0));
        TrailStore y = some();
        y.put(4);
        y.crash(2, 0);
        due.is("what is kept", y.cell(0, 28), 4);
        y.open();
        due.is("what is kept, after opening", y.cell(0, 28), 4);
    }

    private static void noByte(Due due) {
        due.sentence("NONE when there is none.");
        TrailStore x = some();
        int[] bytes = {700, 15600, 128};
        for (int area = 0; area < 3; area++) {
            due.is("the last of area " + area, x.cell(area, bytes[area] - 1), area == 2 ? 1 : 0);
            due.none("the one behind area " + area, x.cell(area, bytes[area]));
            due.none("the next one behind area " + area, x.cell(area, bytes[area] + 1));
            due.none("the one before area " + area, x.cell(area, -1));
            due.none("the least of area " + area, x.cell(area, Integer.MIN_VALUE));
            due.none("the greatest of area " + area, x.cell(area, Integer.MAX_VALUE));
        }
    }

    private static void noArea(Due due) {
        due.sentence("THE DISK has three AREAS of bytes");
        TrailStore x = some();
        for (int area : new int[] {-1, 3, 4, Integer.MIN_VALUE, Integer.MAX_VALUE}) {
            due.none("cell(" + area + ", 0)", x.cell(area, 0));
            due.none("cell(" + area + ", -1)", x.cell(area, -1));
        }
    }
}
