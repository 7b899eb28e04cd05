public final class Promise10NextTest {
    public static void main(String[] args) {
        Due due = new Due("promise 10, next");
        TrailStore x = new TrailStore(600);
        due.is("next(0) of nothing", x.next(0), TrailStore.NONE);
        x.put(0);
        x.put(119);
        x.put(50);
        x.checkpoint();
        x.put(60);
        due.is("next(0)", x.next(0), 0);
        due.is("next(1)", x.next(1), 50);
        due.is("next(50)", x.next(50), 50);
        due.is("next(51)", x.next(51), 60);
        due.is("next(61)", x.next(61), 119);
        due.is("next(119)", x.next(119), 119);
        due.is("next(120)", x.next(120), TrailStore.NONE);
        due.is("next of the greatest number", x.next(Integer.MAX_VALUE), TrailStore.NONE);
        due.is("next(-1)", x.next(-1), 0);
        due.is("next of the least number", x.next(Integer.MIN_VALUE), 0);
        x.remove(0);
        x.remove(119);
        due.is("next(0) without key 0", x.next(0), 50);
        due.is("next(61) without key 119", x.next(61), TrailStore.NONE);
        x.begin();
        x.put(10);
        due.is("next(0) with a batch", x.next(0), 50);
        x.commit();
        due.is("next(0) behind it", x.next(0), 10);
        x.crash(0, 0);
        due.is("next(0) down", x.next(0), TrailStore.DOWN);
        due.is("next(120) down", x.next(120), TrailStore.DOWN);
        x.open();
        due.is("next(0) of what was synced", x.next(0), 0);
        due.is("next(51) of what was synced", x.next(51), 119);
        due.end();
    }
}
