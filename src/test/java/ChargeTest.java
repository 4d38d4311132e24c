/** Promise 9: charge, and the cut of power of the terms. */
public final class ChargeTest {
    public static void main(String[] args) {
        Sentence.holds("n more sectors can be written; the next one is not", ChargeTest::nMoreSectors);
        Sentence.holds("n more sectors can be written, by whichever calls", ChargeTest::lastsOverSeveralCalls);
        Sentence.holds("n more sectors can be written: n may be 0", ChargeTest::chargeOfNone);
        Sentence.holds("n more sectors can be written: n may be 999", ChargeTest::mostCharge);
        Sentence.holds("n more sectors: the charge before it counts no more", ChargeTest::isSetAnew);
        Sentence.holds("the next one is not: a call that needs none goes on", ChargeTest::nothingToWrite);
        Sentence.holds("all frames are empty then", ChargeTest::allFramesAreEmpty);
        Sentence.holds("the hand points at 0", ChargeTest::handAtZero);
        Sentence.holds("there is no charge any more (all can be written, as at first)", ChargeTest::noChargeAnyMore);
        Sentence.holds("disk is as it is", ChargeTest::diskIsAsItIs);
        Sentence.holds("log is as it is", ChargeTest::logIsAsItIs);
        Sentence.holds("how many pages were read and sectors written is as it is", ChargeTest::countsAreAsTheyAre);
        Sentence.holds("IllegalArgumentException: n is not 0 .. 999.", ChargeTest::wrongN);
        Check.end();
    }

    private static void nMoreSectors() {
        for (int n = 0; n <= 24; n++) {
            BufferDesk desk = Desks.fullAndDirty();
            desk.charge(n);
            int whole = 0;
            while (whole < n / 8) {
                Check.same("clean(1), charge " + n, desk.clean(1), 1);
                whole++;
            }
            Check.same("count(5), charge " + n, desk.count(5), 12);
            Check.powerGoes("clean(1), charge " + n, () -> desk.clean(1));
            Check.same("count(2), charge " + n, desk.count(2), n);
            Check.same("torn, charge " + n, desk.torn(whole) ? 1 : 0, n % 8 > 0 ? 1 : 0);
        }
    }

    private static void lastsOverSeveralCalls() {
        BufferDesk desk = Desks.fullAndDirty();
        desk.charge(26);
        Check.same("clean(1)", desk.clean(1), 1);
        Check.same("pin(50)", desk.pin(50), 0);
        Check.same("pin(51)", desk.pin(51), 1);
        Check.same("remake(52)", desk.remake(52), 2);
        Check.same("count(2)", desk.count(2), 24);
        Check.powerGoes("sweep()", desk::sweep);
        Check.same("count(2)", desk.count(2), 26);
        Check.no("torn(2)", desk.torn(2));
        Check.yes("torn(3)", desk.torn(3));
    }

    private static void chargeOfNone() {
        BufferDesk desk = Desks.fullAndDirty();
        desk.charge(0);
        Check.powerGoes("sweep()", desk::sweep);
        Check.same("count(2)", desk.count(2), 0);
        Check.same("count(5)", desk.count(5), 0);
        Check.no("torn(0)", desk.torn(0));
        Check.same("disk(0, 1)", desk.disk(0, 1), 0);
    }

    /** 999 sectors are 124 pages and seven sectors of one more. */
    private static void mostCharge() {
        BufferDesk desk = Desks.full();
        desk.charge(999);
        for (int round = 1; round <= 10; round++) {
            for (int frame = 0; frame < 12; frame++) {
                desk.set(frame, 6, round, 0);
            }
            Check.same("sweep() in round " + round, desk.sweep(), 12);
        }
        for (int frame = 0; frame < 12; frame++) {
            desk.set(frame, 6, 11, 0);
        }
        Check.powerGoes("sweep()", desk::sweep);
        Check.same("count(2)", desk.count(2), 999);
        Check.no("torn(3)", desk.torn(3));
        Check.yes("torn(4)", desk.torn(4));
    }

    private static void isSetAnew() {
        BufferDesk more = Desks.fullAndDirty();
        more.charge(9);
        more.clean(1);
        more.charge(16);
        Check.same("clean(2)", more.clean(2), 2);
        Check.powerGoes("clean(1)", () -> more.clean(1));
        Check.same("count(2)", more.count(2), 24);
        BufferDesk less = Desks.fullAndDirty();
        less.charge(999);
        less.charge(3);
        Check.powerGoes("clean(1)", () -> less.clean(1));
        Check.same("count(2)", less.count(2), 3);
        BufferDesk none = Desks.fullAndDirty();
        none.charge(3);
        none.charge(0);
        Check.powerGoes("clean(1)", () -> none.clean(1));
        Check.same("count(2)", none.count(2), 0);
    }

    private static void nothingToWrite() {
        BufferDesk desk = Desks.full();
        desk.charge(0);
        Check.same("sweep()", desk.sweep(), 0);
        Check.same("clean(12)", desk.clean(12), 0);
        desk.unpin(5);
        Check.same("pin(60)", desk.pin(60), 5);
        desk.unpin(6);
        Check.same("remake(61)", desk.remake(61), 6);
        Check.yes("set(0, 6, 1, 1)", desk.set(0, 6, 1, 1));
        Check.yes("flushed(9)", desk.flushed(9));
        Check.same("count(5)", desk.count(5), 12);
        BufferDesk spent = Desks.fullAndDirty();
        spent.charge(96);
        Check.same("sweep(), all of the charge", spent.sweep(), 12);
        Check.same("sweep(), again", spent.sweep(), 0);
        Check.same("count(5)", spent.count(5), 12);
    }

    private static void allFramesAreEmpty() {
        BufferDesk desk = Desks.fullAndDirty();
        desk.pin(2);
        desk.charge(0);
        Check.powerGoes("clean(12)", () -> desk.clean(12));
        Check.same("count(5)", desk.count(5), 0);
        for (int frame = 0; frame < 12; frame++) {
            for (int what = 0; what <= 4; what++) {
                Check.same("look(" + frame + ", " + what + ")", desk.look(frame, what), -1);
            }
            Check.same("get(" + frame + ", 100)", desk.get(frame, 100), -1);
            Check.no("unpin(" + frame + ")", desk.unpin(frame));
            Check.no("set(" + frame + ", 100, 1, 0)", desk.set(frame, 100, 1, 0));
        }
        Check.same("clean(12)", desk.clean(12), 0);
        Check.same("sweep()", desk.sweep(), 0);
        for (int page = 0; page < 12; page++) {
            Check.same("pin(" + page + ")", desk.pin(page), page);
            Check.same("look(" + page + ", 1)", desk.look(page, 1), 1);
            Check.same("look(" + page + ", 2)", desk.look(page, 2), 1);
            Check.same("look(" + page + ", 3)", desk.look(page, 3), 0);
            Check.same("get(" + page + ", 100)", desk.get(page, 100), 0);
        }
    }

    private static void handAtZero() {
        for (int hand = 1; hand < 12; hand++) {
            BufferDesk desk = Desks.fullWithHandAt(hand);
            desk.set(3, 6, 1, 0);
            desk.charge(4);
            Check.same("count(0)", desk.count(0), hand);
            Check.powerGoes("sweep()", desk::sweep);
            Check.same("count(0) behind the cut", desk.count(0), 0);
        }
        BufferDesk found = Desks.fullAndDirty();
        found.charge(12);
        found.pin(40);
        Check.same("count(0)", found.count(0), 1);
        Check.powerGoes("pin(41)", () -> found.pin(41));
        Check.same("count(0) behind the cut", found.count(0), 0);
    }

    /** More than any charge allows is written behind the cut. */
    private static void noChargeAnyMore() {
        BufferDesk desk = new BufferDesk();
        Desks.tear(desk, 90, 5);
        for (int page = 0; page < 12; page++) {
            desk.pin(page);
        }
        for (int round = 1; round <= 11; round++) {
            for (int frame = 0; frame < 12; frame++) {
                desk.set(frame, 6, round, 0);
            }
            Check.same("sweep() in round " + round, desk.sweep(), 12);
        }
        Check.same("count(2)", desk.count(2), 5 + 1056);
        desk.set(0, 6, 1, 0);
        desk.charge(2);
        Check.powerGoes("sweep(), charged anew", desk::sweep);
        Check.same("count(2)", desk.count(2), 5 + 1056 + 2);
    }

    private static void diskIsAsItIs() {
        BufferDesk desk = Desks.fullAndDirty();
        desk.sweep();
        for (int page = 0; page < 12; page++) {
            desk.pin(page);
            desk.set(page, 100, 200 + page, 0);
        }
        desk.charge(8 * 4 + 2);
        Check.powerGoes("sweep()", desk::sweep);
        for (int page = 0; page < 12; page++) {
            Check.same("disk(" + page + ", 100)", desk.disk(page, 100), page < 5 ? 200 + page : page + 1);
            Check.same("disk(" + page + ", 1)", desk.disk(page, 1), page < 5 ? 2 : 1);
            Check.same("disk(" + page + ", 511)", desk.disk(page, 511), page < 4 ? 2 : 1);
        }
        desk.pin(7);
        Check.same("get(0, 100)", desk.get(0, 100), 8);
    }

    private static void logIsAsItIs() {
        BufferDesk desk = new BufferDesk();
        desk.flushed(5);
        desk.pin(1);
        desk.pin(2);
        desk.pin(3);
        desk.set(0, 6, 1, 20);
        desk.set(1, 6, 1, 30);
        desk.set(2, 6, 1, 40);
        desk.charge(9);
        Check.powerGoes("sweep()", desk::sweep);
        Check.same("count(3)", desk.count(3), 30);
        Check.same("count(4)", desk.count(4), 2);
        Check.no("flushed(30)", desk.flushed(30));
        Check.yes("flushed(31)", desk.flushed(31));
    }

    private static void countsAreAsTheyAre() {
        BufferDesk desk = Desks.fullAndDirty();
        desk.charge(13);
        Check.powerGoes("sweep()", desk::sweep);
        Check.same("count(1)", desk.count(1), 12);
        Check.same("count(2)", desk.count(2), 13);
        desk.pin(50);
        Check.same("count(1)", desk.count(1), 13);
    }

    private static void wrongN() {
        BufferDesk desk = Desks.fullAndDirty();
        desk.charge(10);
        for (int n : Desks.FAR) {
            Check.refused("charge(" + n + ")", IllegalArgumentException.class, () -> desk.charge(n));
        }
        Check.powerGoes("sweep()", desk::sweep);
        Check.same("count(2), the charge before the refusals", desk.count(2), 10);
        BufferDesk free = Desks.fullAndDirty();
        Check.refused("charge(-1)", IllegalArgumentException.class, () -> free.charge(-1));
        Check.refused("charge(1000)", IllegalArgumentException.class, () -> free.charge(1000));
        Check.same("sweep() with no charge", free.sweep(), 12);
    }
}
