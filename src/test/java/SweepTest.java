/** Promise 8: sweep. */
public final class SweepTest {
    public static void main(String[] args) {
        writesAllDirtyFrames();
        writesByTheNumbersOfThePages();
        writesWholePages();
        Check.end();
    }

    private static void writesAllDirtyFrames() {
        BufferDesk desk = Desks.fullAndDirty();
        desk.pin(3);
        Check.same("sweep()", desk.sweep(), 12);
        for (int page = 0; page < 12; page++) {
            Check.same("disk(" + page + ", 100)", desk.disk(page, 100), page + 1);
            Check.same("look(" + page + ", 3)", desk.look(page, 3), 0);
        }
        Check.same("look(3, 1)", desk.look(3, 1), 1);
        Check.same("count(0)", desk.count(0), 0);
        Check.same("count(2)", desk.count(2), 96);
        Check.same("count(4)", desk.count(4), 0);
        Check.same("sweep()", desk.sweep(), 0);
        desk.set(3, 100, 44, 0);
        Check.same("sweep()", desk.sweep(), 1);
        Check.same("disk(3, 100)", desk.disk(3, 100), 44);
        Check.same("disk(3, 1)", desk.disk(3, 1), 2);
        Check.same("count(2)", desk.count(2), 104);
    }

    private static void writesByTheNumbersOfThePages() {
        int[] pages = {150, 3, 191, 0, 77};
        int[] places = {40, 20, 60, 10, 30};
        BufferDesk desk = new BufferDesk();
        for (int frame = 0; frame < pages.length; frame++) {
            desk.pin(pages[frame]);
            desk.set(frame, 100, frame + 1, places[frame]);
        }
        desk.unpin(1);
        desk.charge(19);
        Check.powerGoes("sweep()", desk::sweep);
        Check.same("disk(0, 100)", desk.disk(0, 100), 4);
        Check.same("disk(3, 100)", desk.disk(3, 100), 2);
        Check.same("disk(77, 100)", desk.disk(77, 100), 5);
        Check.no("torn(3)", desk.torn(3));
        Check.yes("torn(77)", desk.torn(77));
        Check.same("disk(150, 100)", desk.disk(150, 100), 0);
        Check.same("disk(191, 100)", desk.disk(191, 100), 0);
        Check.same("count(3)", desk.count(3), 30);
        Check.same("count(4)", desk.count(4), 3);
        Check.same("count(5)", desk.count(5), 0);
    }

    private static void writesWholePages() {
        BufferDesk desk = new BufferDesk();
        desk.pin(100);
        for (int sector = 0; sector < 8; sector++) {
            desk.set(0, Math.max(6, sector * 64), 10 + sector, 0x01020304);
            desk.set(0, Math.min(509, sector * 64 + 63), 20 + sector, 0x01020304);
        }
        desk.sweep();
        for (int sector = 0; sector < 8; sector++) {
            Check.same("first byte of sector " + sector, desk.disk(100, Math.max(6, sector * 64)), 10 + sector);
            Check.same("last byte of sector " + sector, desk.disk(100, Math.min(509, sector * 64 + 63)), 20 + sector);
        }
        for (int i = 2; i <= 5; i++) {
            Check.same("disk(100, " + i + ")", desk.disk(100, i), i - 1);
        }
        Check.same("disk(99, 511)", desk.disk(99, 511), 0);
        Check.same("disk(101, 1)", desk.disk(101, 1), 0);
    }
}
