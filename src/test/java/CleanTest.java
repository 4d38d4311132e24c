/** Promise 7: clean. */
public final class CleanTest {
    public static void main(String[] args) {
        Sentence.holds("up to n", CleanTest::upToN);
        Sentence.holds("up to n: fewer if there are fewer", CleanTest::fewerThanN);
        Sentence.holds("up to n: none if there is none", CleanTest::nothingToWrite);
        Sentence.holds("dirty frames", CleanTest::dirtyOnes);
        Sentence.holds("without pins", CleanTest::withoutPins);
        Sentence.holds("are written, from the hand on", CleanTest::fromTheHandOn);
        Sentence.holds("(which stays)", CleanTest::handStays);
        Sentence.holds("IllegalArgumentException: n is not 1 .. 12.", CleanTest::wrongN);
        Sentence.holds("The call throws UnsupportedOperationException.", CleanTest::powerGoesInClean);
        Check.end();
    }

    /** All frames are dirty and without pins; frame f has f + 1 in byte 100, and place 100 - f. */
    private static BufferDesk dirtyWithHandAt(int hand) {
        BufferDesk desk = hand == 0 ? Desks.full() : Desks.fullWithHandAt(hand);
        for (int frame = 0; frame < 12; frame++) {
            desk.set(frame, 100, frame + 1, 100 - frame);
            desk.unpin(frame);
        }
        return desk;
    }

    private static void upToN() {
        for (int n = 1; n <= 12; n++) {
            BufferDesk desk = dirtyWithHandAt(0);
            Check.same("clean(" + n + ")", desk.clean(n), n);
            Check.same("count(2)", desk.count(2), 8 * n);
            for (int frame = 0; frame < 12; frame++) {
                Check.same("look(" + frame + ", 3) behind clean(" + n + ")", desk.look(frame, 3), frame < n ? 0 : 1);
                Check.same("disk(" + frame + ", 100)", desk.disk(frame, 100), frame < n ? frame + 1 : 0);
            }
            Check.same("count(3)", desk.count(3), 100);
            Check.same("count(4)", desk.count(4), 1);
        }
    }

    private static void fewerThanN() {
        BufferDesk desk = dirtyWithHandAt(0);
        Check.same("clean(9)", desk.clean(9), 9);
        Check.same("clean(9)", desk.clean(9), 3);
        Check.same("clean(9)", desk.clean(9), 0);
        Check.same("count(2)", desk.count(2), 96);
        BufferDesk one = new BufferDesk();
        one.pin(5);
        one.set(0, 6, 1, 0);
        one.unpin(0);
        Check.same("clean(12), one frame dirty", one.clean(12), 1);
    }

    private static void nothingToWrite() {
        BufferDesk desk = new BufferDesk();
        desk.charge(0);
        Check.same("clean(1), empty", desk.clean(1), 0);
        Check.same("clean(12), empty", desk.clean(12), 0);
        desk.pin(5);
        desk.unpin(0);
        Check.same("clean(12), clean", desk.clean(12), 0);
        Check.same("count(2)", desk.count(2), 0);
    }

    private static void dirtyOnes() {
        BufferDesk desk = Desks.full();
        for (int frame = 0; frame < 12; frame++) {
            if (frame % 4 == 3) {
                desk.set(frame, 100, 1, 0);
            }
            desk.unpin(frame);
        }
        Check.same("clean(2)", desk.clean(2), 2);
        Check.same("look(3, 3)", desk.look(3, 3), 0);
        Check.same("look(7, 3)", desk.look(7, 3), 0);
        Check.same("look(11, 3)", desk.look(11, 3), 1);
        Check.same("disk(0, 1), clean before", desk.disk(0, 1), 0);
        Check.same("clean(12)", desk.clean(12), 1);
        Check.same("count(2)", desk.count(2), 24);
    }

    private static void withoutPins() {
        BufferDesk desk = dirtyWithHandAt(0);
        desk.pin(0);
        desk.pin(4);
        Check.same("clean(1)", desk.clean(1), 1);
        Check.same("look(0, 3)", desk.look(0, 3), 1);
        Check.same("look(1, 3)", desk.look(1, 3), 0);
        Check.same("clean(12)", desk.clean(12), 9);
        Check.same("look(4, 3)", desk.look(4, 3), 1);
        Check.same("look(4, 1)", desk.look(4, 1), 1);
        Check.same("disk(4, 100)", desk.disk(4, 100), 0);
        Check.same("clean(12)", desk.clean(12), 0);
        desk.unpin(4);
        Check.same("clean(12), unpinned", desk.clean(12), 1);
        Check.same("look(0, 3)", desk.look(0, 3), 1);
    }

    /** Where the power goes tells which page was on its way. */
    private static void fromTheHandOn() {
        for (int hand = 0; hand < 12; hand++) {
            for (int before = 0; before < 12; before++) {
                BufferDesk desk = dirtyWithHandAt(hand);
                Check.same("count(0)", desk.count(0), hand);
                int frame = (hand + before) % 12;
                int page = desk.look(frame, 0);
                desk.charge(before * 8 + 1);
                Check.powerGoes("clean(12), hand " + hand, () -> desk.clean(12));
                Check.yes("torn(" + page + "), hand " + hand + ", frame " + frame, desk.torn(page));
            }
        }
    }

    private static void handStays() {
        for (int hand = 0; hand < 12; hand++) {
            BufferDesk desk = dirtyWithHandAt(hand);
            desk.clean(1);
            Check.same("count(0)", desk.count(0), hand);
            Check.same("look(" + hand + ", 3)", desk.look(hand, 3), 0);
            Check.same("look(" + (hand + 1) % 12 + ", 3)", desk.look((hand + 1) % 12, 3), 1);
            desk.clean(12);
            Check.same("count(0)", desk.count(0), hand);
            for (int frame = 0; frame < 12; frame++) {
                Check.same("look(" + frame + ", 2)", desk.look(frame, 2), 1);
                Check.same("look(" + frame + ", 1)", desk.look(frame, 1), 0);
            }
            Check.same("count(5)", desk.count(5), 12);
        }
    }

    private static void wrongN() {
        BufferDesk desk = Desks.fullAndDirty();
        String before = Desks.view(desk);
        Check.refused("clean(0)", IllegalArgumentException.class, () -> desk.clean(0));
        Check.refused("clean(13)", IllegalArgumentException.class, () -> desk.clean(13));
        for (int n : Desks.FAR) {
            Check.refused("clean(" + n + ")", IllegalArgumentException.class, () -> desk.clean(n));
        }
        desk.charge(0);
        Check.refused("clean(0), no charge left", IllegalArgumentException.class, () -> desk.clean(0));
        Check.refused("clean(13), no charge left", IllegalArgumentException.class, () -> desk.clean(13));
        Check.same("what is seen behind the refusals", Desks.view(desk), before);
        BufferDesk empty = new BufferDesk();
        Check.refused("clean(0), empty", IllegalArgumentException.class, () -> empty.clean(0));
        Check.refused("clean(13), empty", IllegalArgumentException.class, () -> empty.clean(13));
    }

    private static void powerGoesInClean() {
        BufferDesk desk = dirtyWithHandAt(9);
        desk.charge(13);
        Check.powerGoes("clean(12)", () -> desk.clean(12));
        Check.same("count(0)", desk.count(0), 0);
        Check.same("count(2)", desk.count(2), 13);
        Check.same("count(5)", desk.count(5), 0);
        Check.no("torn(9)", desk.torn(9));
        Check.same("disk(9, 100)", desk.disk(9, 100), 10);
        Check.yes("torn(10)", desk.torn(10));
        Check.no("torn(11)", desk.torn(11));
        Check.same("disk(11, 100)", desk.disk(11, 100), 0);
        BufferDesk enough = dirtyWithHandAt(9);
        enough.charge(16);
        Check.same("clean(2), a charge of 16", enough.clean(2), 2);
    }
}
