/** Promise 13: torn. */
public final class TornTest {
    public static void main(String[] args) {
        BufferDesk desk = new BufferDesk();
        Desks.tear(desk, 0, 1);
        Desks.tear(desk, 191, 7);
        Desks.tear(desk, 50, 0);
        Check.yes("torn(0)", desk.torn(0));
        Check.yes("torn(191)", desk.torn(191));
        Check.no("torn(50)", desk.torn(50));
        Check.no("torn(1)", desk.torn(1));
        Check.no("torn(190)", desk.torn(190));
        Check.no("torn(-1)", desk.torn(-1));
        Check.no("torn(192)", desk.torn(192));
        Check.no("torn(MIN)", desk.torn(Integer.MIN_VALUE));
        Check.no("torn(MAX)", desk.torn(Integer.MAX_VALUE));
        mendedOnlyOnTheDisk(desk);
        Check.end();
    }

    private static void mendedOnlyOnTheDisk(BufferDesk desk) {
        desk.remake(0);
        Check.yes("torn(0), remade", desk.torn(0));
        desk.set(0, 6, 1, 0);
        Check.yes("torn(0), set", desk.torn(0));
        desk.charge(4);
        Check.powerGoes("sweep()", desk::sweep);
        Check.yes("torn(0), cut again", desk.torn(0));
        desk.remake(0);
        desk.set(0, 6, 1, 0);
        desk.sweep();
        Check.no("torn(0), written", desk.torn(0));
        Check.same("disk(0, 511)", desk.disk(0, 511), 3);
        Check.yes("torn(191)", desk.torn(191));
    }
}
