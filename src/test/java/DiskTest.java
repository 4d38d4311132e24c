/** Promise 12: disk. */
public final class DiskTest {
    public static void main(String[] args) {
        BufferDesk desk = new BufferDesk();
        desk.pin(0);
        desk.pin(191);
        desk.set(0, 6, 200, 0);
        desk.set(1, 509, 255, 0);
        Check.same("disk(0, 6) unwritten", desk.disk(0, 6), 0);
        desk.sweep();
        Check.same("disk(0, 6)", desk.disk(0, 6), 200);
        Check.same("disk(191, 509)", desk.disk(191, 509), 255);
        Check.same("disk(191, 511)", desk.disk(191, 511), 1);
        Check.same("disk(191, 6)", desk.disk(191, 6), 0);
        Check.same("disk(190, 511)", desk.disk(190, 511), 0);
        desk.set(0, 6, 201, 0);
        Check.same("disk(0, 6) unwritten", desk.disk(0, 6), 200);
        Check.same("disk(0, -1)", desk.disk(0, -1), -1);
        Check.same("disk(1, -1)", desk.disk(1, -1), -1);
        Check.same("disk(0, 512)", desk.disk(0, 512), -1);
        Check.same("disk(191, 512)", desk.disk(191, 512), -1);
        Check.same("disk(-1, 0)", desk.disk(-1, 0), -1);
        Check.same("disk(-1, 511)", desk.disk(-1, 511), -1);
        Check.same("disk(192, 0)", desk.disk(192, 0), -1);
        Check.same("disk(MIN, MAX)", desk.disk(Integer.MIN_VALUE, Integer.MAX_VALUE), -1);
        Check.same("disk(MAX, MIN)", desk.disk(Integer.MAX_VALUE, Integer.MIN_VALUE), -1);
        Check.same("count(1)", desk.count(1), 2);
        stampsCountUp();
        Check.end();
    }

    /** As far as 512 calls allow: a page is written at most 255 times in them. */
    private static void stampsCountUp() {
        BufferDesk desk = new BufferDesk();
        desk.pin(1);
        for (int stamp = 1; stamp <= 250; stamp++) {
            desk.set(0, 6, stamp, stamp);
            desk.sweep();
        }
        Check.same("disk(1, 0)", desk.disk(1, 0), 0);
        Check.same("disk(1, 1)", desk.disk(1, 1), 250);
        Check.same("disk(1, 510)", desk.disk(1, 510), 0);
        Check.same("disk(1, 511)", desk.disk(1, 511), 250);
        Check.no("torn(1)", desk.torn(1));
    }
}
