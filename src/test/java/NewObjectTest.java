/** Promise 1: a new object, and how long an object is used. */
public final class NewObjectTest {
    public static void main(String[] args) {
        Sentence.holds("The DISK has 192 PAGES, 0 .. 191", NewObjectTest::pages);
        Sentence.holds("of 512 bytes", NewObjectTest::bytes);
        Sentence.holds("all are 0 at first", NewObjectTest::diskIsZero);
        Sentence.holds("The POOL has 12 FRAMES, 0 .. 11", NewObjectTest::frames);
        Sentence.holds("each EMPTY or with one page's bytes", NewObjectTest::framesAreEmpty);
        Sentence.holds("The HAND points at a frame, at first 0.", NewObjectTest::handIsAtZero);
        Sentence.holds("the log is FLUSHED (0 at first)", NewObjectTest::logIsAtZero);
        Sentence.holds("(all can be written, as at first)", NewObjectTest::noChargeAtFirst);
        Sentence.holds("nothing is read, written or flushed by making an object", NewObjectTest::countsAreZero);
        Sentence.holds("All memory is the class's own.", NewObjectTest::objectsAreApart);
        Sentence.holds("An object is used for at most 512 calls", NewObjectTest::lastCall);
        Check.end();
    }

    private static void pages() {
        BufferDesk desk = new BufferDesk();
        Check.same("pin(0)", desk.pin(0), 0);
        Check.same("pin(191)", desk.pin(191), 1);
        Check.same("remake(190)", desk.remake(190), 2);
        Check.refused("pin(-1)", IllegalArgumentException.class, () -> desk.pin(-1));
        Check.refused("pin(192)", IllegalArgumentException.class, () -> desk.pin(192));
        for (int page = 0; page < 192; page++) {
            Check.same("disk(" + page + ", 0)", desk.disk(page, 0), 0);
        }
        Check.same("disk(-1, 0)", desk.disk(-1, 0), -1);
        Check.same("disk(192, 0)", desk.disk(192, 0), -1);
    }

    private static void bytes() {
        BufferDesk desk = new BufferDesk();
        desk.pin(40);
        Check.same("disk(40, 0)", desk.disk(40, 0), 0);
        Check.same("disk(40, 511)", desk.disk(40, 511), 0);
        Check.same("get(0, 0)", desk.get(0, 0), 0);
        Check.same("get(0, 511)", desk.get(0, 511), 0);
        Check.same("disk(40, -1)", desk.disk(40, -1), -1);
        Check.same("disk(40, 512)", desk.disk(40, 512), -1);
        Check.same("get(0, -1)", desk.get(0, -1), -1);
        Check.same("get(0, 512)", desk.get(0, 512), -1);
    }

    /** A page has just as many bytes as an object has calls, so each page has an object of its own. */
    private static void diskIsZero() {
        for (int page = 0; page < 192; page++) {
            BufferDesk desk = new BufferDesk();
            for (int i = 0; i < 512; i++) {
                Check.same("disk(" + page + ", " + i + ")", desk.disk(page, i), 0);
            }
        }
        BufferDesk desk = new BufferDesk();
        for (int page = 0; page < 192; page++) {
            Check.no("torn(" + page + ")", desk.torn(page));
        }
    }

    private static void frames() {
        BufferDesk desk = new BufferDesk();
        for (int frame = 0; frame < 12; frame++) {
            Check.same("pin(" + (100 + frame) + ")", desk.pin(100 + frame), frame);
        }
        Check.same("count(5)", desk.count(5), 12);
        Check.refused("pin(150)", IllegalStateException.class, () -> desk.pin(150));
        Check.same("look(0, 0)", desk.look(0, 0), 100);
        Check.same("look(11, 0)", desk.look(11, 0), 111);
        Check.same("look(-1, 0)", desk.look(-1, 0), -1);
        Check.same("look(12, 0)", desk.look(12, 0), -1);
    }

    private static void framesAreEmpty() {
        BufferDesk desk = new BufferDesk();
        for (int frame = 0; frame < 12; frame++) {
            for (int what = 0; what <= 4; what++) {
                Check.same("look(" + frame + ", " + what + ")", desk.look(frame, what), -1);
            }
            Check.same("get(" + frame + ", 0)", desk.get(frame, 0), -1);
            Check.no("unpin(" + frame + ")", desk.unpin(frame));
            Check.no("set(" + frame + ", 6, 1, 1)", desk.set(frame, 6, 1, 1));
        }
        Check.same("count(5)", desk.count(5), 0);
        Check.same("sweep()", desk.sweep(), 0);
        Check.same("clean(12)", desk.clean(12), 0);
    }

    private static void handIsAtZero() {
        Check.same("count(0)", new BufferDesk().count(0), 0);
        BufferDesk desk = Desks.full();
        Check.same("count(0), all empty ones used", desk.count(0), 0);
        desk.unpin(0);
        desk.unpin(11);
        Check.same("pin(30)", desk.pin(30), 0);
    }

    private static void logIsAtZero() {
        Check.same("count(3)", new BufferDesk().count(3), 0);
        Check.no("flushed(0)", new BufferDesk().flushed(0));
        Check.yes("flushed(1)", new BufferDesk().flushed(1));
        BufferDesk desk = new BufferDesk();
        desk.pin(1);
        desk.set(0, 6, 1, 0);
        desk.sweep();
        Check.same("count(4), a page with place 0", desk.count(4), 0);
        desk.set(0, 6, 1, 1);
        desk.sweep();
        Check.same("count(4), a page with place 1", desk.count(4), 1);
    }

    /** More sectors than any charge allows. */
    private static void noChargeAtFirst() {
        BufferDesk desk = Desks.full();
        for (int round = 1; round <= 11; round++) {
            for (int frame = 0; frame < 12; frame++) {
                desk.set(frame, 6, round, 0);
            }
            Check.same("sweep() in round " + round, desk.sweep(), 12);
        }
        Check.same("count(2)", desk.count(2), 1056);
    }

    private static void countsAreZero() {
        BufferDesk desk = new BufferDesk();
        for (int what = 0; what <= 5; what++) {
            Check.same("count(" + what + ")", desk.count(what), 0);
        }
    }

    private static void objectsAreApart() {
        BufferDesk one = new BufferDesk();
        BufferDesk two = new BufferDesk();
        one.pin(7);
        one.set(0, 6, 9, 3);
        one.sweep();
        one.charge(0);
        Check.same("count(5) of the other", two.count(5), 0);
        Check.same("count(3) of the other", two.count(3), 0);
        Check.same("disk(7, 6) of the other", two.disk(7, 6), 0);
        two.pin(7);
        Check.same("get(0, 6) of the other", two.get(0, 6), 0);
        two.set(0, 6, 1, 0);
        Check.same("sweep() of the other", two.sweep(), 1);
        Check.same("get(0, 6)", one.get(0, 6), 9);
    }

    /** The most pins and the highest stamp that 512 calls can bring, seen by the last of them. */
    private static void lastCall() {
        BufferDesk pins = new BufferDesk();
        for (int call = 1; call <= 511; call++) {
            Check.same("pin(5), call " + call, pins.pin(5), 0);
        }
        Check.same("look(0, 1), call 512", pins.look(0, 1), 511);
        BufferDesk stamps = new BufferDesk();
        stamps.pin(5);
        for (int stamp = 1; stamp <= 255; stamp++) {
            stamps.set(0, 6, 0, 0);
            stamps.sweep();
        }
        Check.same("disk(5, 511), call 512", stamps.disk(5, 511), 255);
    }
}
