/** Promise 3: remake. */
public final class RemakeTest {
    public static void main(String[] args) {
        Sentence.holds("As pin, for a page that no frame has: the lowest empty frame", RemakeTest::lowestEmptyFrame);
        Sentence.holds("As pin: the hand finds a frame", RemakeTest::findsByTheHand);
        Sentence.holds("As pin: if it is dirty it is written", RemakeTest::dirtyIsWritten);
        Sentence.holds("As pin: with 1 pin and use 1, clean", RemakeTest::startsAnew);
        Sentence.holds("but it is not read", RemakeTest::isNotRead);
        Sentence.holds("(nor is it looked at whether it is torn)", RemakeTest::tornPage);
        Sentence.holds("its bytes are 0", RemakeTest::bytesAreZero);
        Sentence.holds("but for its stamps, both the first one on the disk", RemakeTest::stampsOfTheDisk);
        Sentence.holds("IllegalArgumentException, as pin: there is no such page", RemakeTest::noSuchPage);
        Sentence.holds("IllegalStateException: a frame has it", RemakeTest::aFrameHasIt);
        Sentence.holds("IllegalStateException: or all have pins", RemakeTest::allPinned);
        Sentence.holds("The call throws UnsupportedOperationException.", RemakeTest::powerGoesInRemake);
        Check.end();
    }

    private static void lowestEmptyFrame() {
        BufferDesk desk = new BufferDesk();
        for (int frame = 0; frame < 12; frame++) {
            Check.same("remake(" + (191 - frame) + ")", desk.remake(191 - frame), frame);
            Check.same("look(" + frame + ", 0)", desk.look(frame, 0), 191 - frame);
            Check.same("count(0)", desk.count(0), 0);
            desk.unpin(frame);
        }
        Check.same("count(5)", desk.count(5), 12);
    }

    private static void findsByTheHand() {
        for (int frame = 0; frame < 12; frame++) {
            BufferDesk desk = Desks.fullWithHandAt((frame + 1) % 12);
            Desks.leaveWithUse(desk, frame, 3);
            Check.same("remake(40)", desk.remake(40), frame);
            Check.same("count(0)", desk.count(0), (frame + 1) % 12);
        }
        BufferDesk all = Desks.fullAndDirty();
        Check.same("remake(40)", all.remake(40), 0);
        Check.same("look(11, 2)", all.look(11, 2), 0);
        Check.same("remake(41)", all.remake(41), 1);
        Check.same("count(0)", all.count(0), 2);
    }

    private static void dirtyIsWritten() {
        BufferDesk desk = Desks.full();
        desk.set(3, 100, 4, 17);
        desk.unpin(3);
        Check.same("remake(40)", desk.remake(40), 3);
        Check.same("disk(3, 100)", desk.disk(3, 100), 4);
        Check.same("disk(3, 511)", desk.disk(3, 511), 1);
        Check.same("count(2)", desk.count(2), 8);
        Check.same("count(3)", desk.count(3), 17);
        desk.unpin(5);
        desk.charge(0);
        Check.same("remake(41), a clean one found", desk.remake(41), 5);
        Check.same("count(2)", desk.count(2), 8);
    }

    private static void startsAnew() {
        BufferDesk desk = Desks.full();
        desk.set(7, 100, 9, 5000);
        Desks.leaveWithUse(desk, 7, 3);
        Check.same("remake(60)", desk.remake(60), 7);
        int[] due = {60, 1, 1, 0, 0};
        for (int what = 0; what < due.length; what++) {
            Check.same("look(7, " + what + ")", desk.look(7, what), due[what]);
        }
        Check.same("sweep()", desk.sweep(), 0);
        Check.yes("set(7, 6, 1, 0)", desk.set(7, 6, 1, 0));
        Check.same("sweep()", desk.sweep(), 1);
    }

    private static void isNotRead() {
        BufferDesk desk = new BufferDesk();
        Check.same("remake(191)", desk.remake(191), 0);
        Check.same("remake(0)", desk.remake(0), 1);
        Check.same("count(1)", desk.count(1), 0);
        Check.same("count(5)", desk.count(5), 2);
    }

    private static void tornPage() {
        for (int sectors = 1; sectors <= 7; sectors++) {
            BufferDesk desk = new BufferDesk();
            Desks.tear(desk, 30, sectors);
            Check.yes("torn(30)", desk.torn(30));
            Check.same("remake(30)", desk.remake(30), 0);
            Check.yes("torn(30), remade", desk.torn(30));
            desk.set(0, 6, 1, 0);
            desk.sweep();
            Check.no("torn(30), written", desk.torn(30));
        }
    }

    /** The page on the disk, and the page that the frame had before, are full of other bytes. */
    private static void bytesAreZero() {
        BufferDesk desk = Desks.full();
        for (int i = 6; i <= 509; i += 5) {
            desk.set(3, i, 255, Integer.MAX_VALUE);
        }
        desk.set(3, 509, 255, Integer.MAX_VALUE);
        desk.sweep();
        desk.unpin(3);
        Check.same("remake(60)", desk.remake(60), 3);
        for (int i = 6; i <= 509; i += 5) {
            Check.same("get(3, " + i + ")", desk.get(3, i), 0);
        }
        Check.same("get(3, 509)", desk.get(3, 509), 0);
        Check.same("get(3, 1)", desk.get(3, 1), 0);
        Check.same("get(3, 511)", desk.get(3, 511), 0);
        Check.same("look(3, 4)", desk.look(3, 4), 0);
        desk.unpin(3);
        Check.same("remake(3)", desk.remake(3), 3);
        for (int i = 2; i <= 5; i++) {
            Check.same("get(3, " + i + ")", desk.get(3, i), 0);
        }
        for (int i = 6; i <= 509; i += 5) {
            Check.same("get(3, " + i + ")", desk.get(3, i), 0);
        }
        Check.same("get(3, 509)", desk.get(3, 509), 0);
        Check.same("disk(3, 509)", desk.disk(3, 509), 255);
    }

    private static void stampsOfTheDisk() {
        BufferDesk desk = new BufferDesk();
        desk.pin(9);
        for (int round = 0; round < 3; round++) {
            desk.set(0, 100, 50, 1000);
            desk.sweep();
        }
        desk.set(0, 100, 51, 1000);
        desk.charge(1);
        Check.powerGoes("sweep()", desk::sweep);
        Check.same("disk(9, 1)", desk.disk(9, 1), 4);
        Check.same("disk(9, 511)", desk.disk(9, 511), 3);
        Check.same("remake(9)", desk.remake(9), 0);
        Check.same("get(0, 0)", desk.get(0, 0), 0);
        Check.same("get(0, 1)", desk.get(0, 1), 4);
        Check.same("get(0, 510)", desk.get(0, 510), 0);
        Check.same("get(0, 511)", desk.get(0, 511), 4);
        Check.yes("set(0, 6, 1, 0)", desk.set(0, 6, 1, 0));
        desk.sweep();
        Check.same("disk(9, 1)", desk.disk(9, 1), 5);
        Check.same("disk(9, 511)", desk.disk(9, 511), 5);
        Check.same("disk(9, 100)", desk.disk(9, 100), 0);
    }

    private static void noSuchPage() {
        BufferDesk desk = Desks.full();
        Check.refused("remake(192), all pinned", IllegalArgumentException.class, () -> desk.remake(192));
        for (int page : Desks.FAR) {
            Check.refused("remake(" + page + "), all pinned", IllegalArgumentException.class, () -> desk.remake(page));
        }
        desk.set(2, 100, 9, 9);
        desk.unpin(2);
        Check.refusedUnchanged(desk, "remake(-1)", IllegalArgumentException.class, () -> desk.remake(-1));
        Check.refusedUnchanged(desk, "remake(192)", IllegalArgumentException.class, () -> desk.remake(192));
        BufferDesk empty = new BufferDesk();
        Check.refusedUnchanged(empty, "remake(-1)", IllegalArgumentException.class, () -> empty.remake(-1));
        Check.same("remake(191)", empty.remake(191), 0);
        Check.same("remake(0)", empty.remake(0), 1);
    }

    private static void aFrameHasIt() {
        BufferDesk desk = new BufferDesk();
        desk.pin(2);
        desk.set(0, 100, 9, 9);
        Check.refusedUnchanged(desk, "remake(2), pinned", IllegalStateException.class, () -> desk.remake(2));
        desk.unpin(0);
        Check.refusedUnchanged(desk, "remake(2), not pinned", IllegalStateException.class, () -> desk.remake(2));
        desk.remake(3);
        Check.refused("remake(3), again", IllegalStateException.class, () -> desk.remake(3));
        BufferDesk full = Desks.fullAndDirty();
        Check.refusedUnchanged(full, "remake(11)", IllegalStateException.class, () -> full.remake(11));
    }

    private static void allPinned() {
        BufferDesk desk = new BufferDesk();
        Desks.tear(desk, 90, 3);
        for (int page = 0; page < 12; page++) {
            desk.pin(page);
        }
        Check.refusedUnchanged(desk, "remake(12)", IllegalStateException.class, () -> desk.remake(12));
        Check.refusedUnchanged(desk, "remake(90), torn", IllegalStateException.class, () -> desk.remake(90));
        desk.unpin(11);
        Check.same("remake(90)", desk.remake(90), 11);
    }

    private static void powerGoesInRemake() {
        BufferDesk desk = Desks.fullAndDirty();
        desk.charge(7);
        Check.powerGoes("remake(80)", () -> desk.remake(80));
        Check.same("count(0)", desk.count(0), 0);
        Check.same("count(2)", desk.count(2), 7);
        Check.same("count(5)", desk.count(5), 0);
        Check.yes("torn(0)", desk.torn(0));
        Check.same("remake(80)", desk.remake(80), 0);
        BufferDesk enough = Desks.fullAndDirty();
        enough.charge(8);
        Check.same("remake(80), a charge of 8", enough.remake(80), 0);
        Check.no("torn(0)", enough.torn(0));
    }
}
