public final class Promise01NewObjectTest {
    public static void main(String[] args) {
        Due due = new Due("promise 1, a new object");
        int[][] rooms = {{512, 512}, {511, 512}, {0, 512}, {-1, 512}, {Integer.MIN_VALUE, 512}, {513, 513},
            {1000, 1000}, {4095, 4095}, {4096, 4096}, {4097, 4096}, {Integer.MAX_VALUE, 4096}};
        for (int[] room : rooms) {
            TrailStore x = new TrailStore(room[0]);
            due.is("the last byte of the log of " + room[0], x.cell(0, room[1] - 1), 0);
            due.is("the byte behind the log of " + room[0], x.cell(0, room[1]), TrailStore.NONE);
        }
        TrailStore x = new TrailStore(600);
        due.told(x, 0, 0, 1, 0, 2, 0, 3, 1, 4, 0, 5, 0, 6, 0, 7, 0, 8, 0, 9, 0, 10, 0, 11, 0, 12, 0, 13, -1, 14, 1);
        for (int area = 0; area < 3; area++) {
            for (int i = 0; i < new int[] {600, 15600, 128}[area]; i++) {
                due.is("cell(" + area + ", " + i + ")", x.cell(area, i), 0);
            }
        }
        due.is("open()", x.open(), TrailStore.NONE);
        due.is("spare()", x.spare(), 0);
        due.is("read(0)", x.read(0), TrailStore.NONE);
        due.is("check()", x.check(), 1);
        twoAreApart(due);
        due.is("NONE", TrailStore.NONE, -1);
        due.is("DOWN", TrailStore.DOWN, -2);
        due.is("FULL", TrailStore.FULL, -3);
        due.end();
    }

    private static void twoAreApart(Due due) {
        TrailStore one = new TrailStore(600);
        TrailStore other = new TrailStore(600);
        Due.put(one, 3, 2, 9);
        one.crash(0, 0);
        due.is("get(3) of another object", other.get(3), TrailStore.NONE);
        due.told(other, 0, 0, 7, 0);
    }
}
