/** Promise 14: count. */
public final class CountTest {
    public static void main(String[] args) {
        Sentence.holds("0 the hand", CountTest::hand);
        Sentence.holds("1 how many pages were read", CountTest::pagesRead);
        Sentence.holds("2 sectors written", CountTest::sectorsWritten);
        Sentence.holds("3 to where the log is flushed", CountTest::logEnd);
        Sentence.holds("4 flushes", CountTest::flushes);
        Sentence.holds("5 frames that are not empty", CountTest::framesNotEmpty);
        Sentence.holds("0 .. 5, each its own", CountTest::allSix);
        Sentence.holds("-1 for another what", CountTest::noSuchWhat);
        Check.end();
    }

    private static void same(BufferDesk desk, int... due) {
        for (int what = 0; what < due.length; what++) {
            Check.same("count(" + what + ")", desk.count(what), due[what]);
        }
    }

    private static void hand() {
        BufferDesk desk = Desks.full();
        Check.same("count(0)", desk.count(0), 0);
        for (int frame = 0; frame < 12; frame++) {
            desk.unpin(frame);
            desk.pin(50 + frame);
            Check.same("count(0)", desk.count(0), (frame + 1) % 12);
        }
    }

    private static void pagesRead() {
        BufferDesk desk = Desks.full();
        Check.same("count(1)", desk.count(1), 12);
        desk.pin(5);
        desk.disk(100, 6);
        desk.get(0, 6);
        desk.torn(100);
        Check.same("count(1), nothing read", desk.count(1), 12);
        desk.unpin(0);
        desk.remake(50);
        Check.same("count(1), remade", desk.count(1), 12);
        desk.unpin(0);
        desk.pin(51);
        Check.same("count(1), another page", desk.count(1), 13);
        desk.unpin(0);
        desk.pin(0);
        Check.same("count(1), the same page again", desk.count(1), 14);
    }

    private static void sectorsWritten() {
        BufferDesk desk = Desks.fullAndDirty();
        desk.pin(50);
        Check.same("count(2), pin", desk.count(2), 8);
        desk.remake(51);
        Check.same("count(2), remake", desk.count(2), 16);
        desk.clean(3);
        Check.same("count(2), clean", desk.count(2), 40);
        desk.charge(11);
        Check.powerGoes("sweep()", desk::sweep);
        Check.same("count(2), a cut", desk.count(2), 51);
    }

    private static void logEnd() {
        BufferDesk desk = new BufferDesk();
        desk.pin(1);
        desk.set(0, 6, 1, 8);
        Check.same("count(3), not written", desk.count(3), 0);
        desk.sweep();
        Check.same("count(3), written", desk.count(3), 8);
        desk.flushed(Integer.MAX_VALUE);
        Check.same("count(3), flushed", desk.count(3), Integer.MAX_VALUE);
    }

    private static void flushes() {
        BufferDesk desk = new BufferDesk();
        desk.pin(1);
        desk.pin(2);
        desk.set(0, 6, 1, 8);
        desk.set(1, 6, 1, 9);
        desk.sweep();
        Check.same("count(4)", desk.count(4), 2);
        desk.set(0, 6, 1, 9);
        desk.sweep();
        Check.same("count(4), as far already", desk.count(4), 2);
    }

    private static void framesNotEmpty() {
        BufferDesk desk = new BufferDesk();
        for (int page = 0; page < 12; page++) {
            Check.same("count(5)", desk.count(5), page);
            desk.pin(page);
        }
        Check.same("count(5), full", desk.count(5), 12);
        desk.unpin(4);
        Check.same("count(5), without a pin", desk.count(5), 12);
        desk.pin(50);
        Check.same("count(5), another page", desk.count(5), 12);
        desk.set(4, 6, 1, 0);
        desk.charge(0);
        Check.powerGoes("sweep()", desk::sweep);
        Check.same("count(5), a cut", desk.count(5), 0);
    }

    private static void allSix() {
        BufferDesk desk = Desks.fullAndDirty();
        same(desk, 0, 12, 0, 0, 0, 12);
        desk.pin(5);
        desk.set(5, 6, 1, 8);
        desk.pin(40);
        same(desk, 1, 13, 8, 0, 0, 12);
        desk.sweep();
        same(desk, 1, 13, 96, 8, 1, 12);
        desk.flushed(100);
        desk.remake(41);
        same(desk, 2, 13, 96, 100, 1, 12);
        desk.set(1, 6, 1, 101);
        desk.charge(5);
        Check.powerGoes("sweep()", desk::sweep);
        same(desk, 0, 13, 101, 101, 2, 0);
        desk.pin(3);
        same(desk, 0, 14, 101, 101, 2, 1);
    }

    private static void noSuchWhat() {
        BufferDesk desk = Desks.full();
        Check.same("count(6)", desk.count(6), -1);
        for (int what : Desks.FAR) {
            Check.same("count(" + what + ")", desk.count(what), -1);
        }
    }
}
