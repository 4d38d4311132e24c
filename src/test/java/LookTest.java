/** Promise 11: look. */
public final class LookTest {
    public static void main(String[] args) {
        BufferDesk desk = new BufferDesk();
        desk.pin(0);
        desk.pin(191);
        desk.pin(191);
        desk.pin(191);
        desk.unpin(1);
        desk.set(1, 6, 1, 0x12345678);
        int[] first = {0, 1, 1, 0, 0};
        int[] second = {191, 2, 3, 1, 0x12345678};
        int[] none = {-1, -1, -1, -1, -1};
        same(desk, 0, first);
        same(desk, 1, second);
        same(desk, 2, none);
        same(desk, 11, none);
        same(desk, 12, none);
        same(desk, -1, none);
        same(desk, Integer.MIN_VALUE, none);
        same(desk, Integer.MAX_VALUE, none);
        int[] wrong = {-1, 5, Integer.MIN_VALUE, Integer.MAX_VALUE};
        for (int what : wrong) {
            Check.same("look(1, " + what + ")", desk.look(1, what), -1);
            Check.same("look(2, " + what + ")", desk.look(2, what), -1);
        }
        desk.sweep();
        Check.same("look(1, 3)", desk.look(1, 3), 0);
        Check.same("look(1, 4)", desk.look(1, 4), 0x12345678);
        desk.set(1, 6, 1, Integer.MAX_VALUE);
        Check.same("look(1, 4)", desk.look(1, 4), Integer.MAX_VALUE);
        desk.charge(1);
        Check.powerGoes("sweep()", desk::sweep);
        same(desk, 0, none);
        same(desk, 1, none);
        Check.end();
    }

    private static void same(BufferDesk desk, int frame, int[] due) {
        for (int what = 0; what < due.length; what++) {
            Check.same("look(" + frame + ", " + what + ")", desk.look(frame, what), due[what]);
        }
    }
}
