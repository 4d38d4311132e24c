/** Promise 10: flushed. */
public final class FlushedTest {
    public static void main(String[] args) {
        Sentence.holds("The log is flushed to a place: true", FlushedTest::goesForward);
        Sentence.holds("(no flush is counted)", FlushedTest::noFlushIsCounted);
        Sentence.holds("false if it is there already", FlushedTest::thereAlready);
        Sentence.holds("or farther", FlushedTest::farther);
        Sentence.holds("or farther: below 0, too", FlushedTest::belowZero);
        Sentence.holds("flushed to a place: a page of that place needs no flush more", FlushedTest::sparesTheFlush);
        Sentence.holds("there already, by a page that was written", FlushedTest::flushedByAPage);
        Check.end();
    }

    private static void goesForward() {
        int[] places = {1, 2, 500, 65536, Integer.MAX_VALUE - 1, Integer.MAX_VALUE};
        BufferDesk desk = new BufferDesk();
        for (int place : places) {
            Check.yes("flushed(" + place + ")", desk.flushed(place));
            Check.same("count(3)", desk.count(3), place);
        }
    }

    private static void noFlushIsCounted() {
        BufferDesk desk = new BufferDesk();
        desk.flushed(7);
        desk.flushed(7);
        desk.flushed(8);
        Check.same("count(4)", desk.count(4), 0);
    }

    private static void thereAlready() {
        int[] places = {1, 500, Integer.MAX_VALUE};
        Check.no("flushed(0), new", new BufferDesk().flushed(0));
        for (int place : places) {
            BufferDesk desk = new BufferDesk();
            desk.flushed(place);
            Check.no("flushed(" + place + ")", desk.flushed(place));
            Check.same("count(3)", desk.count(3), place);
        }
    }

    private static void farther() {
        BufferDesk desk = new BufferDesk();
        desk.flushed(500);
        Check.no("flushed(499)", desk.flushed(499));
        Check.no("flushed(0)", desk.flushed(0));
        Check.same("count(3)", desk.count(3), 500);
        Check.yes("flushed(501)", desk.flushed(501));
        desk.flushed(Integer.MAX_VALUE);
        Check.no("flushed(MAX - 1)", desk.flushed(Integer.MAX_VALUE - 1));
        Check.no("flushed(MIN)", desk.flushed(Integer.MIN_VALUE));
        Check.same("count(3)", desk.count(3), Integer.MAX_VALUE);
    }

    private static void belowZero() {
        BufferDesk desk = new BufferDesk();
        Check.no("flushed(-1)", desk.flushed(-1));
        Check.no("flushed(MIN)", desk.flushed(Integer.MIN_VALUE));
        Check.same("count(3)", desk.count(3), 0);
    }

    private static void sparesTheFlush() {
        BufferDesk desk = new BufferDesk();
        desk.pin(1);
        desk.set(0, 6, 1, 30);
        desk.flushed(30);
        desk.sweep();
        Check.same("count(4)", desk.count(4), 0);
        desk.set(0, 6, 2, 31);
        desk.sweep();
        Check.same("count(3)", desk.count(3), 31);
        Check.same("count(4)", desk.count(4), 1);
    }

    private static void flushedByAPage() {
        BufferDesk desk = new BufferDesk();
        desk.pin(1);
        desk.set(0, 6, 1, 25);
        Check.yes("flushed(24)", desk.flushed(24));
        desk.sweep();
        Check.no("flushed(25)", desk.flushed(25));
        Check.yes("flushed(26)", desk.flushed(26));
        Check.same("count(4)", desk.count(4), 1);
    }
}
