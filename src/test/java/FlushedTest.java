/** Promise 10: flushed, and the log as pages are written. */
public final class FlushedTest {
    public static void main(String[] args) {
        goesForwardAlone();
        sparesTheFlushOfAPage();
        pagesFlushTheLogNoFarther();
        staysBehindTheCut();
        Check.end();
    }

    private static void goesForwardAlone() {
        BufferDesk desk = new BufferDesk();
        Check.no("flushed(0)", desk.flushed(0));
        Check.no("flushed(-1)", desk.flushed(-1));
        Check.no("flushed(MIN)", desk.flushed(Integer.MIN_VALUE));
        Check.same("count(3)", desk.count(3), 0);
        Check.yes("flushed(1)", desk.flushed(1));
        Check.no("flushed(1)", desk.flushed(1));
        Check.yes("flushed(500)", desk.flushed(500));
        Check.no("flushed(499)", desk.flushed(499));
        Check.same("count(3)", desk.count(3), 500);
        Check.yes("flushed(MAX)", desk.flushed(Integer.MAX_VALUE));
        Check.no("flushed(MAX)", desk.flushed(Integer.MAX_VALUE));
        Check.same("count(3)", desk.count(3), Integer.MAX_VALUE);
        Check.same("count(4)", desk.count(4), 0);
    }

    private static void sparesTheFlushOfAPage() {
        BufferDesk desk = new BufferDesk();
        desk.pin(1);
        desk.set(0, 6, 1, 30);
        desk.flushed(30);
        desk.sweep();
        Check.same("count(4)", desk.count(4), 0);
        desk.set(0, 6, 2, 31);
        desk.sweep();
        Check.same("count(3)", desk.count(3), 31);
        Check.same("count(4)", desk.count(4), 1);
    }

    private static void pagesFlushTheLogNoFarther() {
        BufferDesk desk = new BufferDesk();
        desk.pin(1);
        desk.pin(2);
        desk.pin(3);
        desk.set(0, 6, 1, 20);
        desk.set(1, 6, 1, 10);
        desk.set(2, 6, 1, 25);
        desk.sweep();
        Check.same("count(3)", desk.count(3), 25);
        Check.same("count(4)", desk.count(4), 2);
        Check.no("flushed(25)", desk.flushed(25));
    }

    private static void staysBehindTheCut() {
        BufferDesk desk = new BufferDesk();
        desk.pin(1);
        desk.set(0, 6, 1, 20);
        desk.charge(0);
        Check.powerGoes("sweep()", desk::sweep);
        Check.same("count(3)", desk.count(3), 20);
        Check.same("count(4)", desk.count(4), 1);
        Check.no("flushed(20)", desk.flushed(20));
        Check.yes("flushed(21)", desk.flushed(21));
    }
}
