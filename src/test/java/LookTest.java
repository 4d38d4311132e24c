/** Promise 11: look. */
public final class LookTest {
    private static final int[] NONE = {-1, -1, -1, -1, -1};

    public static void main(String[] args) {
        Sentence.holds("0 its page", LookTest::page);
        Sentence.holds("1 its pins", LookTest::pins);
        Sentence.holds("2 its use", LookTest::use);
        Sentence.holds("3 whether it is dirty (1 or 0)", LookTest::dirty);
        Sentence.holds("4 the page's place", LookTest::place);
        Sentence.holds("-1 if there is no such frame", LookTest::noSuchFrame);
        Sentence.holds("or what", LookTest::noSuchWhat);
        Sentence.holds("or it is empty", LookTest::emptyFrame);
        Check.end();
    }

    private static void same(BufferDesk desk, int frame, int... due) {
        for (int what = 0; what < due.length; what++) {
            Check.same("look(" + frame + ", " + what + ")", desk.look(frame, what), due[what]);
        }
    }

    private static void page() {
        BufferDesk desk = new BufferDesk();
        desk.pin(0);
        desk.pin(191);
        desk.remake(100);
        Check.same("look(0, 0)", desk.look(0, 0), 0);
        Check.same("look(1, 0)", desk.look(1, 0), 191);
        Check.same("look(2, 0)", desk.look(2, 0), 100);
    }

    private static void pins() {
        BufferDesk desk = new BufferDesk();
        desk.pin(7);
        desk.pin(7);
        Check.same("look(0, 1)", desk.look(0, 1), 2);
        desk.unpin(0);
        desk.unpin(0);
        Check.same("look(0, 1)", desk.look(0, 1), 0);
    }

    private static void use() {
        BufferDesk desk = Desks.fullAndDirty();
        desk.pin(3);
        desk.pin(3);
        desk.pin(20);
        Check.same("look(0, 2)", desk.look(0, 2), 1);
        Check.same("look(1, 2)", desk.look(1, 2), 0);
        Check.same("look(3, 2)", desk.look(3, 2), 3);
    }

    private static void dirty() {
        BufferDesk desk = new BufferDesk();
        desk.pin(7);
        Check.same("look(0, 3)", desk.look(0, 3), 0);
        desk.set(0, 6, 1, 0);
        Check.same("look(0, 3)", desk.look(0, 3), 1);
        desk.set(0, 7, 1, 0);
        Check.same("look(0, 3)", desk.look(0, 3), 1);
        desk.sweep();
        Check.same("look(0, 3)", desk.look(0, 3), 0);
    }

    private static void place() {
        int[] places = {0, 127, 128, 255, 256, 0x12345678, 0x7F80FF81, Integer.MAX_VALUE};
        BufferDesk desk = new BufferDesk();
        desk.pin(7);
        for (int place : places) {
            desk.set(0, 6, 1, place);
            Check.same("look(0, 4)", desk.look(0, 4), place);
        }
        desk.sweep();
        Check.same("look(0, 4), written", desk.look(0, 4), Integer.MAX_VALUE);
        desk.set(0, 6, 1, Integer.MAX_VALUE);
        desk.charge(0);
        Check.powerGoes("sweep()", desk::sweep);
        desk.pin(7);
        Check.same("look(0, 4), read", desk.look(0, 4), Integer.MAX_VALUE);
    }

    private static void noSuchFrame() {
        BufferDesk desk = Desks.full();
        same(desk, 12, NONE);
        for (int frame : Desks.FAR) {
            same(desk, frame, NONE);
            Check.same("look(" + frame + ", " + frame + ")", desk.look(frame, frame), -1);
        }
        same(desk, 0, 0, 1, 1, 0, 0);
        same(desk, 11, 11, 1, 1, 0, 0);
    }

    private static void noSuchWhat() {
        BufferDesk desk = Desks.full();
        for (int frame = 0; frame < 12; frame++) {
            Check.same("look(" + frame + ", 5)", desk.look(frame, 5), -1);
            for (int what : Desks.FAR) {
                Check.same("look(" + frame + ", " + what + ")", desk.look(frame, what), -1);
            }
        }
    }

    private static void emptyFrame() {
        BufferDesk desk = new BufferDesk();
        same(desk, 0, NONE);
        desk.pin(5);
        same(desk, 1, NONE);
        same(desk, 11, NONE);
        Check.same("look(1, 5)", desk.look(1, 5), -1);
        desk.set(0, 6, 1, 9);
        desk.charge(1);
        Check.powerGoes("sweep()", desk::sweep);
        same(desk, 0, NONE);
        same(desk, 1, NONE);
    }
}
