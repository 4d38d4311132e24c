/** Promise 6: set. */
public final class SetTest {
    public static void main(String[] args) {
        changesByteAndPlace();
        keepsTheLowestEightBits();
        reachesOneFrameAlone();
        refusals();
        Check.end();
    }

    private static void changesByteAndPlace() {
        BufferDesk desk = new BufferDesk();
        desk.pin(5);
        Check.yes("set(0, 6, 1, 0)", desk.set(0, 6, 1, 0));
        Check.same("look(0, 3)", desk.look(0, 3), 1);
        Check.same("look(0, 4)", desk.look(0, 4), 0);
        Check.yes("set(0, 509, 2, MAX)", desk.set(0, 509, 2, Integer.MAX_VALUE));
        Check.yes("set(0, 300, 3, MAX)", desk.set(0, 300, 3, Integer.MAX_VALUE));
        Check.same("get(0, 6)", desk.get(0, 6), 1);
        Check.same("get(0, 509)", desk.get(0, 509), 2);
        Check.same("get(0, 300)", desk.get(0, 300), 3);
        Check.same("look(0, 4)", desk.look(0, 4), Integer.MAX_VALUE);
        Check.same("count(3)", desk.count(3), 0);
        Check.same("disk(5, 6)", desk.disk(5, 6), 0);
        Check.same("look(0, 1)", desk.look(0, 1), 1);
        Check.same("look(0, 2)", desk.look(0, 2), 1);
        desk.sweep();
        Check.same("look(0, 3)", desk.look(0, 3), 0);
        Check.yes("set(0, 6, 1, MAX), the same again", desk.set(0, 6, 1, Integer.MAX_VALUE));
        Check.same("look(0, 3)", desk.look(0, 3), 1);
    }

    private static void keepsTheLowestEightBits() {
        BufferDesk desk = new BufferDesk();
        desk.pin(5);
        desk.set(0, 10, 256, 0);
        desk.set(0, 11, -1, 0);
        desk.set(0, 12, 0x12345680, 0);
        desk.set(0, 13, Integer.MIN_VALUE, 0);
        Check.same("get(0, 10)", desk.get(0, 10), 0);
        Check.same("get(0, 11)", desk.get(0, 11), 255);
        Check.same("get(0, 12)", desk.get(0, 12), 128);
        Check.same("get(0, 13)", desk.get(0, 13), 0);
        Check.same("get(0, 9)", desk.get(0, 9), 0);
        Check.same("get(0, 14)", desk.get(0, 14), 0);
    }

    private static void reachesOneFrameAlone() {
        BufferDesk desk = Desks.full();
        desk.set(11, 100, 9, 5);
        Check.same("get(11, 100)", desk.get(11, 100), 9);
        for (int frame = 0; frame < 11; frame++) {
            Check.same("get(" + frame + ", 100)", desk.get(frame, 100), 0);
            Check.same("look(" + frame + ", 3)", desk.look(frame, 3), 0);
            Check.same("look(" + frame + ", 4)", desk.look(frame, 4), 0);
        }
    }

    private static void refusals() {
        BufferDesk desk = new BufferDesk();
        desk.pin(5);
        desk.pin(6);
        desk.set(0, 100, 1, 70000);
        desk.sweep();
        desk.unpin(1);
        String before = Desks.view(desk);
        int[] wrongBytes = {-1, 0, 1, 2, 5, 510, 511, 512, Integer.MIN_VALUE, Integer.MAX_VALUE};
        for (int i : wrongBytes) {
            Check.no("set(0, " + i + ", 1, 70000)", desk.set(0, i, 1, 70000));
        }
        int[] wrongFrames = {-1, 1, 2, 11, 12, Integer.MIN_VALUE, Integer.MAX_VALUE};
        for (int frame : wrongFrames) {
            Check.no("set(" + frame + ", 100, 1, 70000)", desk.set(frame, 100, 1, 70000));
        }
        Check.no("set(0, 100, 2, 69999)", desk.set(0, 100, 2, 69999));
        Check.no("set(0, 100, 2, 0)", desk.set(0, 100, 2, 0));
        Check.no("set(0, 100, 2, -1)", desk.set(0, 100, 2, -1));
        Check.no("set(0, 100, 2, MIN)", desk.set(0, 100, 2, Integer.MIN_VALUE));
        Check.same("what is seen behind the refusals", Desks.view(desk), before);
        Check.same("get(0, 0)", desk.get(0, 0), 0);
        Check.same("get(0, 510)", desk.get(0, 510), 0);
        Check.yes("set(0, 100, 2, 70000)", desk.set(0, 100, 2, 70000));
        BufferDesk fresh = new BufferDesk();
        fresh.pin(0);
        Check.no("set(0, 6, 1, -1) on a new page", fresh.set(0, 6, 1, -1));
        Check.same("look(0, 3)", fresh.look(0, 3), 0);
    }
}
