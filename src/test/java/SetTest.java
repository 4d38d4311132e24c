/** Promise 6: set. */
public final class SetTest {
    public static void main(String[] args) {
        Sentence.holds("Byte i (6 .. 509) of the page in a frame", SetTest::bytesThatCanBeSet);
        Sentence.holds("False if there is no such byte", SetTest::noSuchByte);
        Sentence.holds("becomes the lowest eight bits of v", SetTest::lowestEightBits);
        Sentence.holds("and its place this one", SetTest::placeIsThisOne);
        Sentence.holds("it is dirty: true", SetTest::isDirty);
        Sentence.holds("of the page in a frame: of no other one, and not on the disk", SetTest::oneFrameAlone);
        Sentence.holds("False if there is no such frame", SetTest::noSuchFrame);
        Sentence.holds("it has no pins", SetTest::noPins);
        Sentence.holds("it has no pins, being empty", SetTest::emptyFrame);
        Sentence.holds("or place is below that of the page", SetTest::placeBelow);
        Sentence.holds("or place is below that of the page, being below 0", SetTest::placeBelowZero);
        Check.end();
    }

    private static void bytesThatCanBeSet() {
        for (int i = 6; i <= 509; i++) {
            BufferDesk desk = new BufferDesk();
            desk.pin(5);
            Check.yes("set(0, " + i + ", 9, 0)", desk.set(0, i, 9, 0));
            Check.same("get(0, " + i + ")", desk.get(0, i), 9);
            Check.same("get(0, " + (i - 1) + ")", desk.get(0, i - 1), 0);
            Check.same("get(0, " + (i + 1) + ")", desk.get(0, i + 1), 0);
        }
    }

    private static void noSuchByte() {
        BufferDesk desk = new BufferDesk();
        desk.pin(5);
        String before = Desks.view(desk);
        int[] wrong = {0, 1, 2, 3, 4, 5, 510, 511, 512};
        for (int i : wrong) {
            Check.no("set(0, " + i + ", 9, 9)", desk.set(0, i, 9, 9));
        }
        for (int i : Desks.FAR) {
            Check.no("set(0, " + i + ", 9, 9)", desk.set(0, i, 9, 9));
        }
        Check.same("what is seen behind the refusals", Desks.view(desk), before);
        for (int i = 0; i <= 5; i++) {
            Check.same("get(0, " + i + ")", desk.get(0, i), 0);
        }
        Check.same("get(0, 510)", desk.get(0, 510), 0);
        Check.same("get(0, 511)", desk.get(0, 511), 0);
    }

    private static void lowestEightBits() {
        int[] values = {0, 1, 127, 128, 255, 256, 257, 511, 512, -1, -128, -129, -256, -257,
            0x12345680, Integer.MAX_VALUE, Integer.MIN_VALUE};
        BufferDesk desk = new BufferDesk();
        desk.pin(5);
        for (int v : values) {
            Check.yes("set(0, 10, " + v + ", 0)", desk.set(0, 10, v, 0));
            Check.same("get(0, 10) of " + v, desk.get(0, 10), Math.floorMod(v, 256));
            Check.same("get(0, 9) of " + v, desk.get(0, 9), 0);
            Check.same("get(0, 11) of " + v, desk.get(0, 11), 0);
        }
    }

    private static void placeIsThisOne() {
        int[] places = {0, 1, 1, 255, 256, 65536, 16777216, 2000000000, Integer.MAX_VALUE, Integer.MAX_VALUE};
        BufferDesk desk = new BufferDesk();
        desk.pin(5);
        for (int place : places) {
            Check.yes("set(0, 6, 1, " + place + ")", desk.set(0, 6, 1, place));
            Check.same("look(0, 4)", desk.look(0, 4), place);
        }
        Check.same("count(3)", desk.count(3), 0);
        Check.same("count(4)", desk.count(4), 0);
        Check.same("get(0, 1)", desk.get(0, 1), 0);
    }

    private static void isDirty() {
        BufferDesk desk = new BufferDesk();
        desk.pin(5);
        Check.same("look(0, 3)", desk.look(0, 3), 0);
        Check.yes("set(0, 6, 0, 0), as it is already", desk.set(0, 6, 0, 0));
        Check.same("look(0, 3)", desk.look(0, 3), 1);
        Check.same("sweep()", desk.sweep(), 1);
        Check.same("look(0, 3)", desk.look(0, 3), 0);
        Check.yes("set(0, 6, 0, 0), again", desk.set(0, 6, 0, 0));
        Check.same("look(0, 3)", desk.look(0, 3), 1);
        Check.same("look(0, 1)", desk.look(0, 1), 1);
        Check.same("look(0, 2)", desk.look(0, 2), 1);
    }

    private static void oneFrameAlone() {
        BufferDesk desk = Desks.full();
        desk.set(11, 100, 9, 5);
        Check.same("get(11, 100)", desk.get(11, 100), 9);
        for (int frame = 0; frame < 11; frame++) {
            Check.same("get(" + frame + ", 100)", desk.get(frame, 100), 0);
            Check.same("look(" + frame + ", 3)", desk.look(frame, 3), 0);
            Check.same("look(" + frame + ", 4)", desk.look(frame, 4), 0);
        }
        Check.same("disk(11, 100)", desk.disk(11, 100), 0);
        Check.same("disk(11, 5)", desk.disk(11, 5), 0);
        Check.same("count(2)", desk.count(2), 0);
    }

    private static void noSuchFrame() {
        BufferDesk desk = Desks.full();
        String before = Desks.view(desk);
        Check.no("set(12, 100, 1, 1)", desk.set(12, 100, 1, 1));
        for (int frame : Desks.FAR) {
            Check.no("set(" + frame + ", 100, 1, 1)", desk.set(frame, 100, 1, 1));
            Check.no("set(" + frame + ", " + frame + ", 1, 1)", desk.set(frame, frame, 1, 1));
        }
        Check.same("what is seen behind the refusals", Desks.view(desk), before);
        Check.yes("set(0, 100, 1, 1)", desk.set(0, 100, 1, 1));
        Check.yes("set(11, 100, 1, 1)", desk.set(11, 100, 1, 1));
    }

    private static void noPins() {
        BufferDesk desk = new BufferDesk();
        desk.pin(5);
        desk.pin(5);
        desk.unpin(0);
        Check.yes("set(0, 100, 1, 1), one pin left", desk.set(0, 100, 1, 1));
        desk.sweep();
        desk.unpin(0);
        String before = Desks.view(desk);
        Check.no("set(0, 100, 2, 2), no pin left", desk.set(0, 100, 2, 2));
        Check.same("what is seen behind the refusal", Desks.view(desk), before);
    }

    private static void emptyFrame() {
        BufferDesk desk = new BufferDesk();
        desk.pin(5);
        String before = Desks.view(desk);
        Check.no("set(1, 100, 2, 2)", desk.set(1, 100, 2, 2));
        Check.no("set(11, 100, 2, 2)", desk.set(11, 100, 2, 2));
        Check.same("what is seen behind the refusals", Desks.view(desk), before);
        desk.set(0, 6, 1, 0);
        desk.charge(0);
        Check.powerGoes("sweep()", desk::sweep);
        Check.no("set(0, 100, 2, 2) behind the cut", desk.set(0, 100, 2, 2));
        desk.pin(5);
        Check.same("get(0, 100)", desk.get(0, 100), 0);
    }

    private static void placeBelow() {
        int[] places = {1, 70000, 16777216, Integer.MAX_VALUE};
        for (int place : places) {
            BufferDesk desk = new BufferDesk();
            desk.pin(5);
            desk.set(0, 100, 1, place);
            desk.sweep();
            String before = Desks.view(desk);
            Check.no("set(0, 100, 2, " + (place - 1) + ")", desk.set(0, 100, 2, place - 1));
            Check.no("set(0, 100, 2, 0)", desk.set(0, 100, 2, 0));
            Check.same("what is seen behind the refusals", Desks.view(desk), before);
            Check.yes("set(0, 100, 2, " + place + ")", desk.set(0, 100, 2, place));
            Check.same("look(0, 4)", desk.look(0, 4), place);
        }
        // The log may be farther than the page: the page's place alone counts.
        BufferDesk log = new BufferDesk();
        log.flushed(500);
        log.pin(5);
        Check.yes("set(0, 6, 1, 3), the log at 500", log.set(0, 6, 1, 3));
    }

    private static void placeBelowZero() {
        BufferDesk desk = new BufferDesk();
        desk.pin(5);
        String before = Desks.view(desk);
        Check.no("set(0, 6, 1, -1)", desk.set(0, 6, 1, -1));
        Check.no("set(0, 6, 1, MIN)", desk.set(0, 6, 1, Integer.MIN_VALUE));
        Check.same("what is seen behind the refusals", Desks.view(desk), before);
        desk.set(0, 6, 1, Integer.MAX_VALUE);
        Check.no("set(0, 6, 2, MIN), place MAX", desk.set(0, 6, 2, Integer.MIN_VALUE));
        Check.same("get(0, 6)", desk.get(0, 6), 1);
    }
}
