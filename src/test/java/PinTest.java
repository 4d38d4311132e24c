import java.util.NoSuchElementException;

/** Promise 2: pin, and the pinning and finding of the terms. */
public final class PinTest {
    public static void main(String[] args) {
        Sentence.holds("if a frame has it, its pins are 1 more", PinTest::pinsOneMore);
        Sentence.holds("its use 1 more, at most 3", PinTest::useAtMostThree);
        Sentence.holds("a frame is FOUND: the lowest empty one, if there is one", PinTest::lowestEmptyFrame);
        Sentence.holds("the lowest empty one, also behind a cut", PinTest::lowestEmptyFrameBehindACut);
        Sentence.holds("else the hand goes on from frame to frame", PinTest::handGoesOn);
        Sentence.holds("(behind 11 comes 0)", PinTest::behindElevenComesZero);
        Sentence.holds("one with pins is left as it is", PinTest::pinnedFramesAreLeft);
        Sentence.holds("one with a use above 0 has 1 less", PinTest::useOneLess);
        Sentence.holds("one with a use above 0 has 1 less, as many rounds as it takes", PinTest::mostRounds);
        Sentence.holds("the first other one is it, and the hand goes on behind it", PinTest::handGoesBehindIt);
        Sentence.holds("if it is dirty it is written", PinTest::dirtyIsWritten);
        Sentence.holds("if it is dirty it is written: else not", PinTest::cleanIsNotWritten);
        Sentence.holds("The page is read from the disk into it", PinTest::isRead);
        Sentence.holds("with 1 pin and use 1, clean", PinTest::startsAnew);
        Sentence.holds("IllegalArgumentException: there is no such page.", PinTest::noSuchPage);
        Sentence.holds("IllegalStateException: no frame has it, and all have pins.", PinTest::allPinned);
        Sentence.holds("NoSuchElementException: no frame has it, and it is torn on the disk", PinTest::tornPage);
        Sentence.holds("(also if all have pins: IllegalStateException is first)", PinTest::tornPageAndAllPinned);
        Sentence.holds("no frame has it: a frame that has the torn page is pinned", PinTest::tornPageInAFrame);
        Sentence.holds("The call throws UnsupportedOperationException.", PinTest::powerGoesInPin);
        Check.end();
    }

    private static void pinsOneMore() {
        BufferDesk desk = new BufferDesk();
        desk.pin(4);
        desk.pin(5);
        desk.set(1, 6, 1, 1);
        for (int pins = 2; pins <= 20; pins++) {
            Check.same("pin(5)", desk.pin(5), 1);
            Check.same("look(1, 1)", desk.look(1, 1), pins);
        }
        Check.same("look(1, 3)", desk.look(1, 3), 1);
        Check.same("get(1, 6)", desk.get(1, 6), 1);
        Check.same("look(0, 1)", desk.look(0, 1), 1);
        Check.same("count(1)", desk.count(1), 2);
        Check.same("count(5)", desk.count(5), 2);
        BufferDesk left = new BufferDesk();
        left.pin(4);
        left.unpin(0);
        Check.same("pin(4), pins are 0", left.pin(4), 0);
        Check.same("look(0, 1)", left.look(0, 1), 1);
    }

    private static void useAtMostThree() {
        BufferDesk desk = new BufferDesk();
        desk.pin(5);
        int[] due = {2, 3, 3, 3};
        for (int use : due) {
            desk.pin(5);
            Check.same("look(0, 2)", desk.look(0, 2), use);
            desk.unpin(0);
            Check.same("look(0, 2) behind unpin", desk.look(0, 2), use);
        }
        BufferDesk worn = Desks.fullAndDirty();
        worn.pin(30);
        Check.same("look(1, 2)", worn.look(1, 2), 0);
        worn.pin(1);
        Check.same("look(1, 2)", worn.look(1, 2), 1);
    }

    /** All former frames are clean and without pins, and none of them is taken. */
    private static void lowestEmptyFrame() {
        BufferDesk desk = new BufferDesk();
        for (int frame = 0; frame < 12; frame++) {
            Check.same("pin(" + (191 - frame) + ")", desk.pin(191 - frame), frame);
            Check.same("count(5)", desk.count(5), frame + 1);
            Check.same("count(0)", desk.count(0), 0);
            desk.unpin(frame);
        }
        Check.same("look(0, 0)", desk.look(0, 0), 191);
        Check.same("look(0, 2)", desk.look(0, 2), 1);
        Check.same("count(2)", desk.count(2), 0);
    }

    private static void lowestEmptyFrameBehindACut() {
        BufferDesk desk = Desks.fullWithHandAt(7);
        desk.set(5, 6, 1, 0);
        desk.charge(0);
        Check.powerGoes("sweep()", desk::sweep);
        for (int frame = 0; frame < 12; frame++) {
            Check.same("pin(" + (60 + frame) + ")", desk.pin(60 + frame), frame);
        }
        Check.same("count(0)", desk.count(0), 0);
    }

    private static void handGoesOn() {
        BufferDesk desk = Desks.full();
        for (int frame = 0; frame < 12; frame++) {
            desk.unpin(frame);
        }
        Check.same("pin(20)", desk.pin(20), 0);
        Check.same("count(0)", desk.count(0), 1);
        for (int frame = 1; frame < 12; frame++) {
            Check.same("look(" + frame + ", 2)", desk.look(frame, 2), 0);
        }
        Check.same("pin(21)", desk.pin(21), 1);
        Check.same("pin(2)", desk.pin(2), 2);
        desk.unpin(2);
        Check.same("pin(22)", desk.pin(22), 3);
        Check.same("look(2, 2)", desk.look(2, 2), 0);
        Check.same("count(0)", desk.count(0), 4);
        Check.same("count(2)", desk.count(2), 0);
        Check.same("count(5)", desk.count(5), 12);
    }

    private static void behindElevenComesZero() {
        BufferDesk desk = Desks.fullWithHandAt(11);
        Check.same("count(0)", desk.count(0), 11);
        desk.unpin(5);
        Check.same("pin(32)", desk.pin(32), 5);
        Check.same("count(0)", desk.count(0), 6);
        BufferDesk last = Desks.fullWithHandAt(11);
        last.unpin(11);
        Check.same("pin(32)", last.pin(32), 11);
        Check.same("count(0)", last.count(0), 0);
        last.unpin(0);
        Check.same("pin(33)", last.pin(33), 0);
    }

    private static void pinnedFramesAreLeft() {
        BufferDesk desk = Desks.full();
        desk.pin(3);
        desk.pin(3);
        desk.set(4, 100, 7, 1);
        desk.unpin(8);
        Check.same("pin(30)", desk.pin(30), 8);
        Check.same("look(3, 0)", desk.look(3, 0), 3);
        Check.same("look(3, 1)", desk.look(3, 1), 3);
        Check.same("look(3, 2)", desk.look(3, 2), 3);
        Check.same("look(4, 3)", desk.look(4, 3), 1);
        Check.same("look(0, 2)", desk.look(0, 2), 1);
        Check.same("look(9, 2)", desk.look(9, 2), 1);
        Check.same("count(2)", desk.count(2), 0);
        // Frame 2 comes to use 0 without pins, so it would be next, and is pinned again before the hand comes.
        BufferDesk worn = Desks.fullAndDirty();
        worn.pin(30);
        worn.pin(1);
        worn.unpin(1);
        Check.same("look(2, 2)", worn.look(2, 2), 0);
        worn.pin(2);
        Check.same("pin(40), one pinned before it", worn.pin(40), 3);
        Check.same("look(2, 1)", worn.look(2, 1), 1);
        Check.same("look(1, 2)", worn.look(1, 2), 0);
    }

    /** Frame 2 has use 2, frame 11 use 3, the others have pins. */
    private static void useOneLess() {
        BufferDesk desk = Desks.full();
        Desks.leaveWithUse(desk, 2, 2);
        Desks.leaveWithUse(desk, 11, 3);
        Check.same("look(2, 2)", desk.look(2, 2), 2);
        Check.same("look(11, 2)", desk.look(11, 2), 3);
        Check.same("pin(30)", desk.pin(30), 2);
        Check.same("look(11, 2)", desk.look(11, 2), 1);
        Check.same("look(11, 0)", desk.look(11, 0), 11);
        Check.same("look(3, 2)", desk.look(3, 2), 1);
        BufferDesk once = Desks.fullAndDirty();
        for (int frame = 0; frame < 12; frame++) {
            once.pin(frame);
            once.unpin(frame);
        }
        once.pin(4);
        once.unpin(4);
        once.pin(30);
        Check.same("look(4, 2), 3 and two rounds less", once.look(4, 2), 1);
        Check.same("look(5, 2), 2 and two rounds less", once.look(5, 2), 0);
    }

    /** The only frame without pins has use 3, and the hand meets it last in each round. */
    private static void mostRounds() {
        for (int frame = 0; frame < 12; frame++) {
            BufferDesk desk = Desks.fullWithHandAt((frame + 1) % 12);
            Desks.leaveWithUse(desk, frame, 3);
            Check.same("look(" + frame + ", 2)", desk.look(frame, 2), 3);
            Check.same("pin(50)", desk.pin(50), frame);
            Check.same("look(" + frame + ", 0)", desk.look(frame, 0), 50);
            Check.same("count(0)", desk.count(0), (frame + 1) % 12);
        }
        BufferDesk all = Desks.fullWithHandAt(4);
        for (int frame = 0; frame < 12; frame++) {
            Desks.leaveWithUse(all, frame, 3);
        }
        Check.same("pin(50), all with use 3", all.pin(50), 4);
        for (int frame = 0; frame < 12; frame++) {
            Check.same("look(" + frame + ", 2)", all.look(frame, 2), frame == 4 ? 1 : 0);
        }
    }

    private static void handGoesBehindIt() {
        for (int frame = 0; frame < 12; frame++) {
            BufferDesk desk = Desks.full();
            desk.unpin(frame);
            Check.same("pin(50)", desk.pin(50), frame);
            Check.same("count(0)", desk.count(0), (frame + 1) % 12);
        }
    }

    private static void dirtyIsWritten() {
        BufferDesk desk = Desks.full();
        desk.set(4, 63, 1, 9);
        desk.set(4, 64, 2, 9);
        desk.set(4, 509, 3, 9);
        desk.set(5, 63, 4, 20);
        desk.unpin(4);
        Check.same("pin(60)", desk.pin(60), 4);
        Check.same("disk(4, 63)", desk.disk(4, 63), 1);
        Check.same("disk(4, 64)", desk.disk(4, 64), 2);
        Check.same("disk(4, 509)", desk.disk(4, 509), 3);
        Check.same("disk(4, 5)", desk.disk(4, 5), 9);
        Check.same("disk(4, 1)", desk.disk(4, 1), 1);
        Check.same("disk(4, 511)", desk.disk(4, 511), 1);
        Check.same("disk(5, 63)", desk.disk(5, 63), 0);
        Check.same("disk(60, 63)", desk.disk(60, 63), 0);
        Check.same("count(2)", desk.count(2), 8);
        Check.same("count(3)", desk.count(3), 9);
        Check.same("count(4)", desk.count(4), 1);
    }

    private static void cleanIsNotWritten() {
        BufferDesk desk = Desks.full();
        desk.set(4, 100, 1, 9);
        desk.sweep();
        desk.unpin(4);
        desk.charge(0);
        Check.same("pin(60)", desk.pin(60), 4);
        Check.same("count(2)", desk.count(2), 8);
        Check.same("disk(4, 1)", desk.disk(4, 1), 1);
    }

    private static void isRead() {
        BufferDesk desk = new BufferDesk();
        desk.pin(191);
        for (int i = 6; i <= 509; i += 7) {
            desk.set(0, i, i, 300);
        }
        desk.sweep();
        desk.set(0, 6, 99, 400);
        desk.charge(0);
        Check.powerGoes("sweep()", desk::sweep);
        desk.pin(3);
        Check.same("pin(191)", desk.pin(191), 1);
        for (int i = 6; i <= 509; i += 7) {
            Check.same("get(1, " + i + ")", desk.get(1, i), i % 256);
        }
        Check.same("get(1, 1)", desk.get(1, 1), 1);
        Check.same("get(1, 511)", desk.get(1, 511), 1);
        Check.same("look(1, 4)", desk.look(1, 4), 300);
        Check.same("count(1)", desk.count(1), 3);
        Check.same("get(0, 6)", desk.get(0, 6), 0);
    }

    /** The frame that is found had another page with more use, changed bytes and a far place. */
    private static void startsAnew() {
        BufferDesk desk = Desks.full();
        desk.set(7, 100, 9, 5000);
        Desks.leaveWithUse(desk, 7, 3);
        Check.same("pin(60)", desk.pin(60), 7);
        int[] due = {60, 1, 1, 0, 0};
        for (int what = 0; what < due.length; what++) {
            Check.same("look(7, " + what + ")", desk.look(7, what), due[what]);
        }
        Check.same("get(7, 100)", desk.get(7, 100), 0);
        Check.same("get(7, 1)", desk.get(7, 1), 0);
        Check.same("get(7, 511)", desk.get(7, 511), 0);
        BufferDesk fresh = new BufferDesk();
        fresh.pin(60);
        for (int what = 0; what < due.length; what++) {
            Check.same("look(0, " + what + ")", fresh.look(0, what), due[what]);
        }
    }

    private static void noSuchPage() {
        BufferDesk desk = Desks.full();
        Check.refused("pin(192), all pinned", IllegalArgumentException.class, () -> desk.pin(192));
        for (int page : Desks.FAR) {
            Check.refused("pin(" + page + "), all pinned", IllegalArgumentException.class, () -> desk.pin(page));
        }
        desk.unpin(0);
        Check.refusedUnchanged(desk, "pin(-1)", IllegalArgumentException.class, () -> desk.pin(-1));
        Check.refusedUnchanged(desk, "pin(192)", IllegalArgumentException.class, () -> desk.pin(192));
        BufferDesk empty = new BufferDesk();
        Check.refusedUnchanged(empty, "pin(-1)", IllegalArgumentException.class, () -> empty.pin(-1));
        Check.refusedUnchanged(empty, "pin(192)", IllegalArgumentException.class, () -> empty.pin(192));
        Check.same("pin(191)", empty.pin(191), 0);
        Check.same("pin(0)", empty.pin(0), 1);
    }

    private static void allPinned() {
        BufferDesk desk = Desks.full();
        Check.refusedUnchanged(desk, "pin(12)", IllegalStateException.class, () -> desk.pin(12));
        Check.same("pin(11), a frame has it", desk.pin(11), 11);
        Check.same("look(11, 1)", desk.look(11, 1), 2);
        desk.unpin(11);
        Check.refused("pin(12), one pin left", IllegalStateException.class, () -> desk.pin(12));
        desk.unpin(11);
        Check.same("pin(12), no pin left", desk.pin(12), 11);
        BufferDesk eleven = new BufferDesk();
        for (int page = 0; page < 11; page++) {
            eleven.pin(page);
        }
        Check.same("pin(12), one frame empty", eleven.pin(12), 11);
        Check.refused("pin(13)", IllegalStateException.class, () -> eleven.pin(13));
    }

    private static void tornPage() {
        BufferDesk desk = new BufferDesk();
        Desks.tear(desk, 90, 3);
        Check.refusedUnchanged(desk, "pin(90)", NoSuchElementException.class, () -> desk.pin(90));
        Check.same("pin(89)", desk.pin(89), 0);
        Check.same("pin(91)", desk.pin(91), 1);
        BufferDesk charged = new BufferDesk();
        Desks.tear(charged, 0, 7);
        for (int page = 1; page <= 12; page++) {
            charged.pin(page);
        }
        charged.set(6, 100, 1, 50);
        charged.unpin(6);
        charged.charge(0);
        // A frame that were found first would move the hand, flush the log, and meet the end of the charge.
        Check.refusedUnchanged(charged, "pin(0)", NoSuchElementException.class, () -> charged.pin(0));
        Check.powerGoes("clean(1)", () -> charged.clean(1));
    }

    private static void tornPageAndAllPinned() {
        BufferDesk desk = new BufferDesk();
        Desks.tear(desk, 90, 3);
        for (int page = 0; page < 12; page++) {
            desk.pin(page);
        }
        Check.refusedUnchanged(desk, "pin(90)", IllegalStateException.class, () -> desk.pin(90));
        desk.unpin(6);
        Check.refusedUnchanged(desk, "pin(90), one not pinned", NoSuchElementException.class, () -> desk.pin(90));
    }

    private static void tornPageInAFrame() {
        BufferDesk desk = new BufferDesk();
        Desks.tear(desk, 90, 3);
        desk.remake(90);
        Check.yes("torn(90)", desk.torn(90));
        Check.same("pin(90)", desk.pin(90), 0);
        Check.same("look(0, 1)", desk.look(0, 1), 2);
        Check.same("look(0, 2)", desk.look(0, 2), 2);
        for (int page = 0; page < 11; page++) {
            desk.pin(page);
        }
        Check.same("pin(90), all pinned", desk.pin(90), 0);
    }

    private static void powerGoesInPin() {
        BufferDesk desk = Desks.full();
        desk.set(7, 100, 1, 6);
        desk.unpin(7);
        desk.charge(2);
        Check.powerGoes("pin(80)", () -> desk.pin(80));
        Check.same("count(0)", desk.count(0), 0);
        Check.same("count(1)", desk.count(1), 12);
        Check.same("count(2)", desk.count(2), 2);
        Check.same("count(3)", desk.count(3), 6);
        Check.same("count(4)", desk.count(4), 1);
        Check.same("count(5)", desk.count(5), 0);
        Check.yes("torn(7)", desk.torn(7));
        Check.same("pin(80)", desk.pin(80), 0);
        BufferDesk enough = Desks.full();
        enough.set(7, 100, 1, 6);
        enough.unpin(7);
        enough.charge(8);
        Check.same("pin(80), a charge of 8", enough.pin(80), 7);
    }
}
