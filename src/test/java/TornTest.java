/** Promise 13: torn. */
public final class TornTest {
    public static void main(String[] args) {
        Sentence.holds("Whether a page is torn", TornTest::everyPage);
        Sentence.holds("Whether a page is torn: not if no sector, or each, was written", TornTest::noneOrAllWritten);
        Sentence.holds("on the disk", TornTest::onTheDisk);
        Sentence.holds("false if there is no such page", TornTest::noSuchPage);
        Check.end();
    }

    private static void everyPage() {
        for (int page = 0; page < 192; page++) {
            BufferDesk desk = new BufferDesk();
            Desks.tear(desk, page, page % 7 + 1);
            for (int other = 0; other < 192; other++) {
                Check.same("torn(" + other + ")", desk.torn(other) ? 1 : 0, other == page ? 1 : 0);
            }
        }
    }

    private static void noneOrAllWritten() {
        BufferDesk desk = new BufferDesk();
        Desks.tear(desk, 50, 0);
        Check.no("torn(50), no sector", desk.torn(50));
        desk.pin(50);
        desk.set(0, 6, 1, 0);
        desk.charge(8);
        desk.sweep();
        Check.no("torn(50), eight sectors", desk.torn(50));
    }

    private static void onTheDisk() {
        BufferDesk desk = new BufferDesk();
        Desks.tear(desk, 50, 4);
        desk.remake(50);
        Check.yes("torn(50), remade", desk.torn(50));
        desk.set(0, 6, 1, 0);
        Check.yes("torn(50), set", desk.torn(50));
        desk.charge(4);
        Check.powerGoes("sweep()", desk::sweep);
        Check.yes("torn(50), cut again", desk.torn(50));
        desk.remake(50);
        desk.set(0, 6, 1, 0);
        desk.sweep();
        Check.no("torn(50), written", desk.torn(50));
        Check.same("disk(50, 511)", desk.disk(50, 511), 3);
    }

    private static void noSuchPage() {
        BufferDesk desk = new BufferDesk();
        Desks.tear(desk, 0, 1);
        Desks.tear(desk, 191, 7);
        Check.no("torn(192)", desk.torn(192));
        for (int page : Desks.FAR) {
            Check.no("torn(" + page + ")", desk.torn(page));
        }
        // Page times 512 is 0 again in an int.
        Check.no("torn(8388608)", desk.torn(8388608));
        Check.yes("torn(0)", desk.torn(0));
        Check.yes("torn(191)", desk.torn(191));
    }
}
