/** Promise 5: get. */
public final class GetTest {
    public static void main(String[] args) {
        BufferDesk desk = new BufferDesk();
        desk.pin(5);
        desk.set(0, 6, 255, 0x7A8B9CAD);
        desk.set(0, 509, 128, 0x7A8B9CAD);
        Check.same("get(0, 6)", desk.get(0, 6), 255);
        Check.same("get(0, 509)", desk.get(0, 509), 128);
        Check.same("get(0, 2)", desk.get(0, 2), 0x7A);
        Check.same("get(0, 3)", desk.get(0, 3), 0x8B);
        Check.same("get(0, 4)", desk.get(0, 4), 0x9C);
        Check.same("get(0, 5)", desk.get(0, 5), 0xAD);
        Check.same("get(0, 0)", desk.get(0, 0), 0);
        Check.same("get(0, 511)", desk.get(0, 511), 0);
        desk.sweep();
        Check.same("get(0, 1)", desk.get(0, 1), 1);
        Check.same("get(0, 511)", desk.get(0, 511), 1);
        desk.unpin(0);
        Check.same("get(0, 6) without pins", desk.get(0, 6), 255);
        Check.same("get(0, -1)", desk.get(0, -1), -1);
        Check.same("get(0, 512)", desk.get(0, 512), -1);
        Check.same("get(0, MAX)", desk.get(0, Integer.MAX_VALUE), -1);
        Check.same("get(1, 6), empty", desk.get(1, 6), -1);
        Check.same("get(11, 6), empty", desk.get(11, 6), -1);
        Check.same("get(-1, 6)", desk.get(-1, 6), -1);
        Check.same("get(12, 6)", desk.get(12, 6), -1);
        Check.same("get(MIN, MIN)", desk.get(Integer.MIN_VALUE, Integer.MIN_VALUE), -1);
        desk.pin(5);
        desk.set(0, 6, 1, 0x7FFFFFFF);
        desk.charge(8);
        desk.sweep();
        desk.set(0, 6, 2, 0x7FFFFFFF);
        Check.powerGoes("sweep()", desk::sweep);
        Check.same("get(0, 6) behind the cut", desk.get(0, 6), -1);
        Check.end();
    }
}
