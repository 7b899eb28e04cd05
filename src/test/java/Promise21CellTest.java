public final class Promise21CellTest {
    public static void main(String[] args) {
        Due due = new Due("promise 21, cell");
        TrailStore x = new TrailStore(700);
        due.cells(x, 0, 699, 0, -1, -1);
        due.cells(x, 1, 15599, 0, -1, -1);
        due.cells(x, 2, 127, 0, -1, -1);
        for (int area : new int[] {0, 1, 2}) {
            due.is("cell(" + area + ", 0)", x.cell(area, 0), 0);
            due.is("cell(" + area + ", -1)", x.cell(area, -1), TrailStore.NONE);
            due.is("the least of area " + area, x.cell(area, Integer.MIN_VALUE), TrailStore.NONE);
            due.is("the greatest of area " + area, x.cell(area, Integer.MAX_VALUE), TrailStore.NONE);
        }
        for (int area : new int[] {-1, 3, Integer.MIN_VALUE, Integer.MAX_VALUE}) {
            due.is("cell(" + area + ", 0)", x.cell(area, 0), TrailStore.NONE);
        }
        x.type(0x80FF7FL, 3);
        x.put(3);
        due.cells(x, 0, 0, 1, 3, 3, 0, 0, 0, 0, 1, 0, 0, 0, 1, 128, 255, 127, 0);
        x.checkpoint();
        x.put(3);
        x.checkpoint();
        due.cells(x, 1, 0, 84, 0, 1, 0, 0, 0, 0, 1);
        due.cells(x, 1, 1300, 84, 0, 1, 0, 0, 0, 0, 2);
        due.cells(x, 1, 1316, 3, 1, 0, 0, 0, 15, 0, 0, 0, 2, 0);
        due.cells(x, 2, 0, 0, 0, 0, 2);
        due.cells(x, 2, 64, 0, 0, 0, 1);
        x.put(4);
        due.is("what is written is read", x.cell(0, 28), 4);
        x.crash(0, 0);
        due.is("what is not kept is not", x.cell(0, 28), 0);
        due.is("cell(1, 1300) down", x.cell(1, 1300), 84);
        due.is("cell(2, 3) down", x.cell(2, 3), 2);
        due.is("cell(0, 700) down", x.cell(0, 700), TrailStore.NONE);
        due.is("cell(3, 0) down", x.cell(3, 0), TrailStore.NONE);
        due.end();
    }
}
