public final class Promise09ReadTest {
    public static void main(String[] args) {
        Due due = new Due("promise 9, read");
        TrailStore x = new TrailStore(600);
        due.is("read(0) before any get()", x.read(0), TrailStore.NONE);
        x.type(0x00FF807F01L, 5);
        x.put(1);
        due.is("read(0) before any get()", x.read(0), TrailStore.NONE);
        x.get(1);
        int[] want = {0, 255, 128, 127, 1};
        for (int i = 0; i < want.length; i++) {
            due.is("read(" + i + ")", x.read(i), want[i]);
        }
        for (int i : new int[] {5, 6, 63, 64, 65, -1, Integer.MIN_VALUE, Integer.MAX_VALUE}) {
            due.is("read(" + i + ")", x.read(i), TrailStore.NONE);
        }
        Due.put(x, 1, 2, 9);
        due.is("read(1), as it was got", x.read(1), 255);
        x.remove(1);
        due.is("read(4), as it was got", x.read(4), 1);
        Due.put(x, 2, 64, 77);
        x.get(2);
        due.is("read(63)", x.read(63), 77);
        x.crash(0, 0);
        due.is("read(63) down", x.read(63), 77);
        due.is("read(64) down", x.read(64), TrailStore.NONE);
        x.open();
        due.is("read(63) after opening", x.read(63), 77);
        due.end();
    }
}
