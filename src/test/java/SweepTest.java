import java.util.Arrays;

/** Promise 8: sweep. */
public final class SweepTest {
    public static void main(String[] args) {
        Sentence.holds("The pages of all dirty frames are written: how many", SweepTest::allDirtyFrames);
        Sentence.holds("all dirty frames: none if there is none", SweepTest::nothingToWrite);
        Sentence.holds("all dirty frames: no other ones", SweepTest::dirtyOnesAlone);
        Sentence.holds("(with pins, too)", SweepTest::withPinsToo);
        Sentence.holds("by the numbers of the pages", SweepTest::byTheNumbersOfThePages);
        Sentence.holds("The pages are written: every byte of them", SweepTest::wholePages);
        Sentence.holds("The call throws UnsupportedOperationException.", SweepTest::powerGoesInSweep);
        Check.end();
    }

    private static void allDirtyFrames() {
        BufferDesk desk = Desks.fullAndDirty();
        Check.same("sweep()", desk.sweep(), 12);
        for (int page = 0; page < 12; page++) {
            Check.same("disk(" + page + ", 100)", desk.disk(page, 100), page + 1);
            Check.same("look(" + page + ", 3)", desk.look(page, 3), 0);
            Check.same("look(" + page + ", 2)", desk.look(page, 2), 1);
        }
        Check.same("count(0)", desk.count(0), 0);
        Check.same("count(2)", desk.count(2), 96);
        Check.same("count(4)", desk.count(4), 0);
        Check.same("count(5)", desk.count(5), 12);
    }

    private static void nothingToWrite() {
        BufferDesk desk = new BufferDesk();
        desk.charge(0);
        Check.same("sweep(), empty", desk.sweep(), 0);
        desk.pin(3);
        Check.same("sweep(), clean", desk.sweep(), 0);
        Check.same("count(2)", desk.count(2), 0);
        BufferDesk swept = Desks.fullAndDirty();
        swept.sweep();
        Check.same("sweep(), again", swept.sweep(), 0);
        Check.same("count(2)", swept.count(2), 96);
    }

    private static void dirtyOnesAlone() {
        for (int frame = 0; frame < 12; frame++) {
            BufferDesk desk = Desks.fullWithHandAt(5);
            desk.set(frame, 100, 44, 0);
            int page = desk.look(frame, 0);
            Check.same("sweep()", desk.sweep(), 1);
            Check.same("disk(" + page + ", 100)", desk.disk(page, 100), 44);
            Check.same("disk(" + page + ", 1)", desk.disk(page, 1), 1);
            Check.same("count(2)", desk.count(2), 8);
            Check.same("count(0)", desk.count(0), 5);
        }
    }

    private static void withPinsToo() {
        BufferDesk desk = Desks.fullAndDirty();
        desk.pin(3);
        desk.pin(3);
        Check.same("sweep()", desk.sweep(), 12);
        Check.same("disk(3, 100)", desk.disk(3, 100), 4);
        Check.same("look(3, 1)", desk.look(3, 1), 2);
        Check.same("look(3, 2)", desk.look(3, 2), 3);
        Check.same("look(3, 3)", desk.look(3, 3), 0);
        Check.yes("set(3, 100, 44, 0)", desk.set(3, 100, 44, 0));
        Check.same("sweep()", desk.sweep(), 1);
        Check.same("disk(3, 100)", desk.disk(3, 100), 44);
        Check.same("disk(3, 511)", desk.disk(3, 511), 2);
    }

    /** Where the power goes tells which page was on its way; the order of frames, hand and places is another. */
    private static void byTheNumbersOfThePages() {
        int[] pages = {150, 3, 191, 0, 77, 128, 12, 127, 190, 1, 100, 20};
        int[] sorted = pages.clone();
        Arrays.sort(sorted);
        for (int before = 0; before < 12; before++) {
            BufferDesk desk = new BufferDesk();
            for (int frame = 0; frame < 12; frame++) {
                desk.pin(pages[frame]);
                desk.set(frame, 100, frame + 1, 5 + frame * 7 % 12);
                if (frame % 3 == 0) {
                    desk.unpin(frame);
                }
            }
            desk.charge(before * 8 + 1);
            Check.powerGoes("sweep()", desk::sweep);
            Check.yes("torn(" + sorted[before] + ")", desk.torn(sorted[before]));
            Check.same("count(2)", desk.count(2), before * 8 + 1);
        }
    }

    private static void wholePages() {
        BufferDesk desk = new BufferDesk();
        desk.pin(100);
        for (int sector = 0; sector < 8; sector++) {
            desk.set(0, Math.max(6, sector * 64), 10 + sector, 0x01020304);
            desk.set(0, Math.min(509, sector * 64 + 63), 20 + sector, 0x01020304);
        }
        desk.sweep();
        for (int sector = 0; sector < 8; sector++) {
            Check.same("first byte of sector " + sector, desk.disk(100, Math.max(6, sector * 64)), 10 + sector);
            Check.same("last byte of sector " + sector, desk.disk(100, Math.min(509, sector * 64 + 63)), 20 + sector);
        }
        for (int i = 2; i <= 5; i++) {
            Check.same("disk(100, " + i + ")", desk.disk(100, i), i - 1);
        }
        Check.same("disk(99, 511)", desk.disk(99, 511), 0);
        Check.same("disk(101, 1)", desk.disk(101, 1), 0);
    }

    private static void powerGoesInSweep() {
        BufferDesk desk = Desks.fullAndDirty();
        desk.charge(95);
        Check.powerGoes("sweep(), a charge of 95", desk::sweep);
        Check.same("count(2)", desk.count(2), 95);
        Check.same("count(5)", desk.count(5), 0);
        Check.yes("torn(11)", desk.torn(11));
        BufferDesk enough = Desks.fullAndDirty();
        enough.charge(96);
        Check.same("sweep(), a charge of 96", enough.sweep(), 12);
        Check.no("torn(11)", enough.torn(11));
    }
}
