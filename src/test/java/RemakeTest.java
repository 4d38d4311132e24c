/** Promise 3: remake. */
public final class RemakeTest {
    public static void main(String[] args) {
        isBlankButForTheStamps();
        takesTheFirstStampOfATornPage();
        isNotReadAndIsClean();
        leavesNothingOfTheFormerPage();
        findsAFrameAsPinDoes();
        refusals();
        powerGoesInRemake();
        Check.end();
    }

    private static void isBlankButForTheStamps() {
        BufferDesk desk = new BufferDesk();
        desk.pin(9);
        for (int round = 0; round < 3; round++) {
            desk.set(0, 100, 50, 1000);
            desk.sweep();
        }
        desk.set(0, 100, 51, 1000);
        desk.charge(0);
        Check.powerGoes("sweep()", desk::sweep);
        Check.same("remake(9)", desk.remake(9), 0);
        Check.same("get(0, 1)", desk.get(0, 1), 3);
        Check.same("get(0, 511)", desk.get(0, 511), 3);
        Check.same("get(0, 0)", desk.get(0, 0), 0);
        Check.same("get(0, 510)", desk.get(0, 510), 0);
        Check.same("get(0, 100)", desk.get(0, 100), 0);
        Check.same("look(0, 4)", desk.look(0, 4), 0);
        Check.same("disk(9, 100)", desk.disk(9, 100), 50);
        Check.yes("set(0, 6, 1, 0)", desk.set(0, 6, 1, 0));
        desk.sweep();
        Check.same("disk(9, 1)", desk.disk(9, 1), 4);
        Check.same("disk(9, 100)", desk.disk(9, 100), 0);
    }

    private static void takesTheFirstStampOfATornPage() {
        BufferDesk desk = new BufferDesk();
        Desks.tear(desk, 30, 1);
        Check.same("disk(30, 1)", desk.disk(30, 1), 1);
        Check.same("disk(30, 511)", desk.disk(30, 511), 0);
        Check.same("remake(30)", desk.remake(30), 0);
        Check.same("get(0, 1)", desk.get(0, 1), 1);
        Check.same("get(0, 511)", desk.get(0, 511), 1);
        Check.yes("torn(30)", desk.torn(30));
        desk.set(0, 6, 1, 0);
        desk.sweep();
        Check.no("torn(30)", desk.torn(30));
        Check.same("disk(30, 511)", desk.disk(30, 511), 2);
    }

    private static void isNotReadAndIsClean() {
        BufferDesk desk = new BufferDesk();
        Check.same("remake(191)", desk.remake(191), 0);
        Check.same("remake(0)", desk.remake(0), 1);
        Check.same("count(1)", desk.count(1), 0);
        Check.same("count(5)", desk.count(5), 2);
        Check.same("look(0, 0)", desk.look(0, 0), 191);
        Check.same("look(0, 1)", desk.look(0, 1), 1);
        Check.same("look(0, 2)", desk.look(0, 2), 1);
        Check.same("look(0, 3)", desk.look(0, 3), 0);
        Check.same("sweep()", desk.sweep(), 0);
    }

    private static void leavesNothingOfTheFormerPage() {
        BufferDesk desk = Desks.full();
        for (int i = 6; i < 510; i += 21) {
            desk.set(3, i, 255, Integer.MAX_VALUE);
        }
        desk.set(3, 509, 255, Integer.MAX_VALUE);
        desk.unpin(3);
        Check.same("remake(60)", desk.remake(60), 3);
        for (int i = 6; i < 510; i += 21) {
            Check.same("get(3, " + i + ")", desk.get(3, i), 0);
        }
        Check.same("get(3, 509)", desk.get(3, 509), 0);
        Check.same("get(3, 1)", desk.get(3, 1), 0);
        Check.same("get(3, 511)", desk.get(3, 511), 0);
        Check.same("look(3, 4)", desk.look(3, 4), 0);
    }

    private static void findsAFrameAsPinDoes() {
        BufferDesk desk = Desks.fullAndDirty();
        Check.same("remake(40)", desk.remake(40), 0);
        Check.same("count(0)", desk.count(0), 1);
        Check.same("count(1)", desk.count(1), 12);
        Check.same("count(2)", desk.count(2), 8);
        Check.same("disk(0, 100)", desk.disk(0, 100), 1);
        Check.same("look(11, 2)", desk.look(11, 2), 0);
        Check.same("remake(41)", desk.remake(41), 1);
    }

    private static void refusals() {
        BufferDesk desk = Desks.full();
        int[] wrong = {-1, 192, Integer.MIN_VALUE, Integer.MAX_VALUE};
        for (int page : wrong) {
            Check.refused("remake(" + page + ")", IllegalArgumentException.class, () -> desk.remake(page));
        }
        Check.refused("remake(12), all pinned", IllegalStateException.class, () -> desk.remake(12));
        desk.set(2, 100, 9, 9);
        desk.unpin(2);
        Check.refusedUnchanged(desk, "remake(2)", IllegalStateException.class, () -> desk.remake(2));
        Check.refusedUnchanged(desk, "remake(-1)", IllegalArgumentException.class, () -> desk.remake(-1));
    }

    private static void powerGoesInRemake() {
        BufferDesk desk = Desks.fullAndDirty();
        desk.charge(7);
        Check.powerGoes("remake(80)", () -> desk.remake(80));
        Check.same("count(0)", desk.count(0), 0);
        Check.same("count(2)", desk.count(2), 7);
        Check.same("count(5)", desk.count(5), 0);
        Check.yes("torn(0)", desk.torn(0));
    }
}
