/** Terms: writing the page of a frame, the log before it. */
public final class WritingTest {
    public static void main(String[] args) {
        Sentence.holds("if the log is FLUSHED to less than the page's place", WritingTest::flushesBelowThePlaceAlone);
        Sentence.holds("it is flushed to just that, one FLUSH more", WritingTest::flushesToJustThat);
        Sentence.holds("no page is written before the log has come as far", WritingTest::logGoesFirst);
        Sentence.holds("sectors 0, 1, .., 7 of it go to the disk, one after the other", WritingTest::sectorsInOrder);
        Sentence.holds("and it is clean", WritingTest::isCleanThen);
        Check.end();
    }

    /** The log is at 50; a page is written whose place is just below, just there, or just beyond. */
    private static void flushesBelowThePlaceAlone() {
        for (int place = 49; place <= 51; place++) {
            BufferDesk desk = new BufferDesk();
            desk.flushed(50);
            desk.pin(70);
            desk.set(0, 6, 1, place);
            desk.sweep();
            Check.same("count(3), place " + place, desk.count(3), Math.max(50, place));
            Check.same("count(4), place " + place, desk.count(4), place > 50 ? 1 : 0);
        }
        BufferDesk far = new BufferDesk();
        far.pin(70);
        far.set(0, 6, 1, Integer.MAX_VALUE);
        far.sweep();
        Check.same("count(3), place MAX", far.count(3), Integer.MAX_VALUE);
        Check.same("count(4), place MAX", far.count(4), 1);
    }

    private static void flushesToJustThat() {
        BufferDesk desk = new BufferDesk();
        desk.pin(1);
        desk.pin(2);
        desk.pin(3);
        desk.set(0, 6, 1, 20);
        desk.set(1, 6, 1, 90);
        desk.set(2, 6, 1, 25);
        desk.unpin(0);
        desk.unpin(2);
        Check.same("clean(1)", desk.clean(1), 1);
        Check.same("count(3)", desk.count(3), 20);
        Check.same("count(4)", desk.count(4), 1);
        Check.same("clean(1)", desk.clean(1), 1);
        Check.same("count(3)", desk.count(3), 25);
        Check.same("count(4)", desk.count(4), 2);
        Check.same("sweep()", desk.sweep(), 1);
        Check.same("count(3)", desk.count(3), 90);
        Check.same("count(4)", desk.count(4), 3);
    }

    /** The power goes before the first sector, and the log has been flushed all the same. */
    private static void logGoesFirst() {
        BufferDesk desk = new BufferDesk();
        desk.pin(70);
        desk.set(0, 6, 1, 33);
        desk.charge(0);
        Check.powerGoes("sweep()", desk::sweep);
        Check.same("count(2)", desk.count(2), 0);
        Check.same("count(3)", desk.count(3), 33);
        Check.same("count(4)", desk.count(4), 1);
    }

    private static void sectorsInOrder() {
        for (int sectors = 0; sectors <= 7; sectors++) {
            BufferDesk desk = new BufferDesk();
            desk.pin(70);
            for (int sector = 0; sector < 8; sector++) {
                desk.set(0, sector * 64 + 20, 30 + sector, 0);
            }
            desk.charge(sectors);
            Check.powerGoes("sweep() with a charge of " + sectors, desk::sweep);
            for (int sector = 0; sector < 8; sector++) {
                int due = sector < sectors ? 30 + sector : 0;
                Check.same("sector " + sector + ", charge " + sectors, desk.disk(70, sector * 64 + 20), due);
            }
        }
    }

    private static void isCleanThen() {
        BufferDesk desk = new BufferDesk();
        desk.pin(70);
        desk.pin(70);
        desk.set(0, 6, 5, 9);
        Check.same("look(0, 3)", desk.look(0, 3), 1);
        desk.sweep();
        Check.same("look(0, 3)", desk.look(0, 3), 0);
        Check.same("look(0, 0)", desk.look(0, 0), 70);
        Check.same("look(0, 1)", desk.look(0, 1), 2);
        Check.same("look(0, 2)", desk.look(0, 2), 2);
        Check.same("look(0, 4)", desk.look(0, 4), 9);
        Check.same("get(0, 6)", desk.get(0, 6), 5);
        Check.same("sweep()", desk.sweep(), 0);
        desk.unpin(0);
        desk.unpin(0);
        Check.same("clean(12)", desk.clean(12), 0);
        Check.same("count(2)", desk.count(2), 8);
    }
}
