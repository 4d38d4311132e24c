import java.util.NoSuchElementException;

/** Promise 2: pin. */
public final class PinTest {
    public static void main(String[] args) {
        takesTheLowestEmptyFrame();
        pinsAgain();
        handGoesRound();
        handLeavesPinnedFramesAsTheyAre();
        handTakesUseAway();
        handGoesPastTheLastFrame();
        writesADirtyPageFirst();
        readsWhatWasWritten();
        noSuchPage();
        allPinned();
        tornPage();
        tornPageInAFrame();
        powerGoesInPin();
        Check.end();
    }

    private static void takesTheLowestEmptyFrame() {
        BufferDesk desk = new BufferDesk();
        Check.same("pin(191)", desk.pin(191), 0);
        Check.same("pin(0)", desk.pin(0), 1);
        desk.unpin(0);
        Check.same("pin(50)", desk.pin(50), 2);
        Check.same("look(2, 0)", desk.look(2, 0), 50);
        Check.same("look(2, 1)", desk.look(2, 1), 1);
        Check.same("look(2, 2)", desk.look(2, 2), 1);
        Check.same("look(2, 3)", desk.look(2, 3), 0);
        Check.same("look(2, 4)", desk.look(2, 4), 0);
        Check.same("count(0)", desk.count(0), 0);
        Check.same("count(1)", desk.count(1), 3);
        Check.same("count(5)", desk.count(5), 3);
    }

    private static void pinsAgain() {
        BufferDesk desk = new BufferDesk();
        desk.pin(4);
        desk.pin(5);
        desk.set(1, 6, 1, 1);
        for (int pins = 2; pins <= 5; pins++) {
            Check.same("pin(5)", desk.pin(5), 1);
            Check.same("look(1, 1)", desk.look(1, 1), pins);
            Check.same("look(1, 2)", desk.look(1, 2), Math.min(pins, 3));
        }
        Check.same("look(1, 3)", desk.look(1, 3), 1);
        Check.same("count(1)", desk.count(1), 2);
        Check.same("look(0, 1)", desk.look(0, 1), 1);
    }

    private static void handGoesRound() {
        BufferDesk desk = Desks.full();
        for (int frame = 0; frame < 12; frame++) {
            desk.unpin(frame);
        }
        Check.same("pin(20)", desk.pin(20), 0);
        Check.same("count(0)", desk.count(0), 1);
        for (int frame = 1; frame < 12; frame++) {
            Check.same("look(" + frame + ", 2)", desk.look(frame, 2), 0);
        }
        Check.same("pin(21)", desk.pin(21), 1);
        Check.same("pin(2)", desk.pin(2), 2);
        desk.unpin(2);
        Check.same("pin(22)", desk.pin(22), 3);
        Check.same("look(2, 2)", desk.look(2, 2), 0);
        Check.same("count(0)", desk.count(0), 4);
        Check.same("count(2)", desk.count(2), 0);
    }

    private static void handLeavesPinnedFramesAsTheyAre() {
        BufferDesk desk = Desks.full();
        desk.pin(3);
        desk.pin(3);
        desk.unpin(8);
        Check.same("pin(30)", desk.pin(30), 8);
        Check.same("look(3, 1)", desk.look(3, 1), 3);
        Check.same("look(3, 2)", desk.look(3, 2), 3);
        Check.same("look(0, 2)", desk.look(0, 2), 1);
        Check.same("count(0)", desk.count(0), 9);
    }

    private static void handTakesUseAway() {
        BufferDesk desk = Desks.full();
        desk.pin(11);
        desk.pin(11);
        for (int pins = 0; pins < 3; pins++) {
            desk.unpin(11);
        }
        desk.pin(2);
        desk.unpin(2);
        desk.unpin(2);
        // Frame 2 has use 2, frame 11 use 3: frame 2 is at 0 after two rounds, and is met first in the third.
        Check.same("pin(30)", desk.pin(30), 2);
        Check.same("look(11, 2)", desk.look(11, 2), 1);
        // Now frame 11 alone has no pins, and its use is the most of all.
        desk.pin(11);
        desk.pin(11);
        desk.unpin(11);
        desk.unpin(11);
        Check.same("look(11, 2)", desk.look(11, 2), 3);
        Check.same("pin(31)", desk.pin(31), 11);
        Check.same("look(11, 0)", desk.look(11, 0), 31);
        Check.same("look(11, 2)", desk.look(11, 2), 1);
        Check.same("count(0)", desk.count(0), 0);
    }

    private static void handGoesPastTheLastFrame() {
        BufferDesk desk = Desks.full();
        desk.unpin(11);
        Check.same("pin(30)", desk.pin(30), 11);
        Check.same("count(0)", desk.count(0), 0);
        desk.unpin(10);
        desk.pin(31);
        Check.same("count(0)", desk.count(0), 11);
        desk.unpin(5);
        Check.same("pin(32)", desk.pin(32), 5);
        Check.same("count(0)", desk.count(0), 6);
    }

    private static void writesADirtyPageFirst() {
        BufferDesk desk = Desks.full();
        desk.set(4, 63, 1, 9);
        desk.set(4, 64, 2, 9);
        desk.set(4, 509, 3, 9);
        desk.set(5, 63, 4, 20);
        desk.unpin(4);
        Check.same("pin(60)", desk.pin(60), 4);
        Check.same("disk(4, 63)", desk.disk(4, 63), 1);
        Check.same("disk(4, 64)", desk.disk(4, 64), 2);
        Check.same("disk(4, 509)", desk.disk(4, 509), 3);
        Check.same("disk(4, 5)", desk.disk(4, 5), 9);
        Check.same("disk(4, 1)", desk.disk(4, 1), 1);
        Check.same("disk(4, 511)", desk.disk(4, 511), 1);
        Check.same("disk(5, 63)", desk.disk(5, 63), 0);
        Check.same("count(2)", desk.count(2), 8);
        Check.same("count(3)", desk.count(3), 9);
        Check.same("count(4)", desk.count(4), 1);
        Check.same("get(4, 63)", desk.get(4, 63), 0);
        Check.same("look(4, 3)", desk.look(4, 3), 0);
        Check.same("look(4, 4)", desk.look(4, 4), 0);
    }

    private static void readsWhatWasWritten() {
        BufferDesk desk = Desks.fullAndDirty();
        desk.sweep();
        for (int page = 12; page < 24; page++) {
            desk.pin(page);
        }
        desk.unpin(7);
        Check.same("pin(3)", desk.pin(3), 7);
        Check.same("get(7, 100)", desk.get(7, 100), 4);
        Check.same("get(7, 1)", desk.get(7, 1), 1);
        Check.same("get(7, 511)", desk.get(7, 511), 1);
        Check.same("count(1)", desk.count(1), 25);
    }

    private static void noSuchPage() {
        BufferDesk desk = Desks.full();
        int[] wrong = {-1, 192, Integer.MIN_VALUE, Integer.MAX_VALUE};
        for (int page : wrong) {
            Check.refused("pin(" + page + ")", IllegalArgumentException.class, () -> desk.pin(page));
        }
        desk.unpin(0);
        Check.refusedUnchanged(desk, "pin(-1)", IllegalArgumentException.class, () -> desk.pin(-1));
        BufferDesk empty = new BufferDesk();
        Check.refusedUnchanged(empty, "pin(-1)", IllegalArgumentException.class, () -> empty.pin(-1));
    }

    private static void allPinned() {
        BufferDesk desk = Desks.full();
        Check.refusedUnchanged(desk, "pin(12)", IllegalStateException.class, () -> desk.pin(12));
        Check.same("pin(11)", desk.pin(11), 11);
        Check.same("look(11, 1)", desk.look(11, 1), 2);
    }

    private static void tornPage() {
        BufferDesk desk = new BufferDesk();
        Desks.tear(desk, 90, 3);
        Check.refusedUnchanged(desk, "pin(90)", NoSuchElementException.class, () -> desk.pin(90));
        for (int page = 0; page < 12; page++) {
            desk.pin(page);
        }
        Check.refusedUnchanged(desk, "pin(90), all pinned", IllegalStateException.class, () -> desk.pin(90));
        desk.set(6, 100, 1, 50);
        desk.unpin(6);
        Check.refusedUnchanged(desk, "pin(90), one not pinned", NoSuchElementException.class, () -> desk.pin(90));
    }

    private static void tornPageInAFrame() {
        BufferDesk desk = new BufferDesk();
        Desks.tear(desk, 90, 3);
        desk.remake(90);
        Check.yes("torn(90)", desk.torn(90));
        Check.same("pin(90)", desk.pin(90), 0);
        Check.same("look(0, 1)", desk.look(0, 1), 2);
    }

    private static void powerGoesInPin() {
        BufferDesk desk = Desks.full();
        desk.set(7, 100, 1, 6);
        desk.unpin(7);
        desk.charge(2);
        Check.powerGoes("pin(80)", () -> desk.pin(80));
        Check.same("count(0)", desk.count(0), 0);
        Check.same("count(1)", desk.count(1), 12);
        Check.same("count(2)", desk.count(2), 2);
        Check.same("count(3)", desk.count(3), 6);
        Check.same("count(4)", desk.count(4), 1);
        Check.same("count(5)", desk.count(5), 0);
        Check.yes("torn(7)", desk.torn(7));
        Check.same("pin(80)", desk.pin(80), 0);
    }
}
