/** Promise 4: unpin. */
public final class UnpinTest {
    public static void main(String[] args) {
        BufferDesk desk = new BufferDesk();
        desk.pin(5);
        desk.pin(5);
        desk.pin(6);
        desk.set(0, 100, 3, 4);
        Check.yes("unpin(0)", desk.unpin(0));
        Check.same("look(0, 1)", desk.look(0, 1), 1);
        Check.same("look(0, 2)", desk.look(0, 2), 2);
        Check.same("look(1, 1)", desk.look(1, 1), 1);
        Check.yes("unpin(0)", desk.unpin(0));
        Check.same("look(0, 0)", desk.look(0, 0), 5);
        Check.same("look(0, 1)", desk.look(0, 1), 0);
        Check.same("look(0, 3)", desk.look(0, 3), 1);
        String before = Desks.view(desk);
        Check.no("unpin(0) without pins", desk.unpin(0));
        Check.no("unpin(2), empty", desk.unpin(2));
        Check.no("unpin(-1)", desk.unpin(-1));
        Check.no("unpin(12)", desk.unpin(12));
        Check.no("unpin(MIN)", desk.unpin(Integer.MIN_VALUE));
        Check.no("unpin(MAX)", desk.unpin(Integer.MAX_VALUE));
        Check.same("what is seen behind the refusals", Desks.view(desk), before);
        BufferDesk full = Desks.full();
        Check.yes("unpin(11)", full.unpin(11));
        Check.same("pin(50)", full.pin(50), 11);
        Check.end();
    }
}
