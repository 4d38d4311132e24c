/** Promise 14: count. */
public final class CountTest {
    public static void main(String[] args) {
        BufferDesk desk = Desks.fullAndDirty();
        same(desk, 0, 12, 0, 0, 0, 12);
        desk.pin(5);
        same(desk, 0, 12, 0, 0, 0, 12);
        desk.set(5, 6, 1, 8);
        desk.pin(40);
        same(desk, 1, 13, 8, 0, 0, 12);
        desk.sweep();
        same(desk, 1, 13, 96, 8, 1, 12);
        desk.flushed(100);
        same(desk, 1, 13, 96, 100, 1, 12);
        desk.remake(41);
        same(desk, 2, 13, 96, 100, 1, 12);
        desk.set(1, 6, 1, 101);
        desk.charge(5);
        Check.powerGoes("sweep()", desk::sweep);
        same(desk, 0, 13, 101, 101, 2, 0);
        desk.pin(3);
        same(desk, 0, 14, 101, 101, 2, 1);
        int[] wrong = {-1, 6, Integer.MIN_VALUE, Integer.MAX_VALUE};
        for (int what : wrong) {
            Check.same("count(" + what + ")", desk.count(what), -1);
        }
        Check.end();
    }

    private static void same(BufferDesk desk, int... due) {
        for (int what = 0; what < due.length; what++) {
            Check.same("count(" + what + ")", desk.count(what), due[what]);
        }
    }
}
