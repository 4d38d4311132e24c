/** Promise 7: clean. */
public final class CleanTest {
    public static void main(String[] args) {
        writesFromTheHandOn();
        passesOverPinnedAndCleanFrames();
        writesOnlyWhatThereIs();
        refusals();
        powerGoesInClean();
        Check.end();
    }

    /** The hand is at 9 and all frames are dirty and without pins. */
    private static BufferDesk handAtNine() {
        BufferDesk desk = Desks.full();
        desk.unpin(8);
        desk.pin(20);
        for (int frame = 0; frame < 12; frame++) {
            desk.set(frame, 100, frame + 1, 100 - frame);
            desk.unpin(frame);
        }
        return desk;
    }

    private static void writesFromTheHandOn() {
        BufferDesk desk = handAtNine();
        Check.same("count(0)", desk.count(0), 9);
        Check.same("clean(1)", desk.clean(1), 1);
        Check.same("look(9, 3)", desk.look(9, 3), 0);
        Check.same("look(10, 3)", desk.look(10, 3), 1);
        Check.same("count(2)", desk.count(2), 8);
        Check.same("count(3)", desk.count(3), 91);
        Check.same("clean(3)", desk.clean(3), 3);
        Check.same("look(11, 3)", desk.look(11, 3), 0);
        Check.same("look(0, 3)", desk.look(0, 3), 0);
        Check.same("look(1, 3)", desk.look(1, 3), 1);
        Check.same("look(8, 3)", desk.look(8, 3), 1);
        Check.same("count(0)", desk.count(0), 9);
        Check.same("count(3)", desk.count(3), 100);
        Check.same("count(4)", desk.count(4), 2);
        Check.same("disk(0, 100)", desk.disk(0, 100), 1);
        Check.same("disk(1, 100)", desk.disk(1, 100), 0);
        Check.same("look(0, 2)", desk.look(0, 2), 1);
        Check.same("count(5)", desk.count(5), 12);
    }

    private static void passesOverPinnedAndCleanFrames() {
        BufferDesk desk = handAtNine();
        desk.pin(9);
        desk.pin(11);
        desk.clean(1);
        Check.same("look(10, 3)", desk.look(10, 3), 0);
        Check.same("look(9, 3)", desk.look(9, 3), 1);
        Check.same("clean(1)", desk.clean(1), 1);
        Check.same("look(11, 3)", desk.look(11, 3), 1);
        Check.same("look(0, 3)", desk.look(0, 3), 0);
        Check.same("look(9, 1)", desk.look(9, 1), 1);
    }

    private static void writesOnlyWhatThereIs() {
        BufferDesk desk = Desks.fullAndDirty();
        desk.pin(4);
        Check.same("clean(12)", desk.clean(12), 11);
        Check.same("count(2)", desk.count(2), 88);
        Check.same("clean(12)", desk.clean(12), 0);
        Check.same("look(4, 3)", desk.look(4, 3), 1);
        desk.unpin(4);
        Check.same("clean(12)", desk.clean(12), 1);
        Check.same("clean(1)", desk.clean(1), 0);
        Check.same("count(2)", desk.count(2), 96);
        BufferDesk all = Desks.fullAndDirty();
        Check.same("clean(12) of all", all.clean(12), 12);
    }

    private static void refusals() {
        BufferDesk desk = Desks.fullAndDirty();
        int[] wrong = {0, -1, 13, Integer.MIN_VALUE, Integer.MAX_VALUE};
        String before = Desks.view(desk);
        for (int n : wrong) {
            Check.refused("clean(" + n + ")", IllegalArgumentException.class, () -> desk.clean(n));
        }
        Check.same("what is seen behind the refusals", Desks.view(desk), before);
    }

    private static void powerGoesInClean() {
        BufferDesk desk = handAtNine();
        desk.charge(13);
        Check.powerGoes("clean(12)", () -> desk.clean(12));
        Check.same("count(0)", desk.count(0), 0);
        Check.same("count(2)", desk.count(2), 13);
        Check.same("count(5)", desk.count(5), 0);
        Check.no("torn(9)", desk.torn(9));
        Check.same("disk(9, 100)", desk.disk(9, 100), 10);
        Check.yes("torn(10)", desk.torn(10));
        Check.no("torn(11)", desk.torn(11));
        Check.same("disk(11, 100)", desk.disk(11, 100), 0);
    }
}
