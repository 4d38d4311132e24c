/** Promise 4: unpin. */
public final class UnpinTest {
    public static void main(String[] args) {
        Sentence.holds("One pin less: true", UnpinTest::onePinLess);
        Sentence.holds("One pin less: nothing else of the frame", UnpinTest::nothingElse);
        Sentence.holds("false if there is no such frame", UnpinTest::noSuchFrame);
        Sentence.holds("or it has none", UnpinTest::noPins);
        Sentence.holds("or it has none, being empty", UnpinTest::emptyFrame);
        Check.end();
    }

    private static void onePinLess() {
        BufferDesk desk = new BufferDesk();
        for (int pins = 0; pins < 5; pins++) {
            desk.pin(5);
        }
        for (int pins = 4; pins >= 0; pins--) {
            Check.yes("unpin(0)", desk.unpin(0));
            Check.same("look(0, 1)", desk.look(0, 1), pins);
        }
        BufferDesk full = Desks.full();
        Check.yes("unpin(11)", full.unpin(11));
        Check.same("pin(50)", full.pin(50), 11);
        Check.yes("unpin(0)", full.unpin(0));
        Check.same("pin(51)", full.pin(51), 0);
    }

    private static void nothingElse() {
        BufferDesk desk = new BufferDesk();
        desk.pin(5);
        desk.pin(5);
        desk.pin(6);
        desk.set(0, 100, 3, 4);
        desk.unpin(0);
        desk.unpin(0);
        Check.same("look(0, 0)", desk.look(0, 0), 5);
        Check.same("look(0, 2)", desk.look(0, 2), 2);
        Check.same("look(0, 3)", desk.look(0, 3), 1);
        Check.same("look(0, 4)", desk.look(0, 4), 4);
        Check.same("get(0, 100)", desk.get(0, 100), 3);
        Check.same("look(1, 1)", desk.look(1, 1), 1);
        Check.same("count(2)", desk.count(2), 0);
        Check.same("count(5)", desk.count(5), 2);
    }

    private static void noSuchFrame() {
        BufferDesk desk = Desks.full();
        String before = Desks.view(desk);
        Check.no("unpin(12)", desk.unpin(12));
        for (int frame : Desks.FAR) {
            Check.no("unpin(" + frame + ")", desk.unpin(frame));
        }
        Check.same("what is seen behind the refusals", Desks.view(desk), before);
    }

    private static void noPins() {
        BufferDesk desk = new BufferDesk();
        desk.pin(5);
        desk.unpin(0);
        for (int time = 0; time < 3; time++) {
            Check.no("unpin(0)", desk.unpin(0));
        }
        Check.same("look(0, 1)", desk.look(0, 1), 0);
        desk.pin(5);
        Check.same("look(0, 1), pinned again", desk.look(0, 1), 1);
        Check.yes("unpin(0)", desk.unpin(0));
        Check.no("unpin(0)", desk.unpin(0));
    }

    private static void emptyFrame() {
        BufferDesk desk = new BufferDesk();
        Check.no("unpin(0), new", desk.unpin(0));
        desk.pin(5);
        desk.pin(6);
        Check.no("unpin(2)", desk.unpin(2));
        Check.no("unpin(11)", desk.unpin(11));
        Check.same("look(2, 1)", desk.look(2, 1), -1);
        desk.set(0, 6, 1, 0);
        desk.charge(0);
        Check.powerGoes("sweep()", desk::sweep);
        Check.no("unpin(0) behind the cut", desk.unpin(0));
        Check.no("unpin(1) behind the cut", desk.unpin(1));
    }
}
