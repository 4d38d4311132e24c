/** Promise 12: disk. */
public final class DiskTest {
    public static void main(String[] args) {
        Sentence.holds("Byte i of a page", DiskTest::everyByte);
        Sentence.holds("Byte i of a page, whichever it is", DiskTest::everyPage);
        Sentence.holds("as it is on the disk", DiskTest::asOnTheDisk);
        Sentence.holds("-1 if there is none such: no such page", DiskTest::noSuchPage);
        Sentence.holds("-1 if there is none such: no such byte", DiskTest::noSuchByte);
        Check.end();
    }

    private static void everyByte() {
        for (int from = 6; from <= 509; from += 72) {
            BufferDesk desk = new BufferDesk();
            desk.pin(60);
            for (int i = from; i < from + 72 && i <= 509; i++) {
                desk.set(0, i, i % 251 + 1, 0);
            }
            desk.sweep();
            for (int i = from; i < from + 72 && i <= 509; i++) {
                Check.same("disk(60, " + i + ")", desk.disk(60, i), i % 251 + 1);
            }
            Check.same("disk(59, " + from + ")", desk.disk(59, from), 0);
            Check.same("disk(61, " + from + ")", desk.disk(61, from), 0);
        }
        BufferDesk high = new BufferDesk();
        high.pin(60);
        high.set(0, 6, 255, 0);
        high.set(0, 7, 128, 0);
        high.sweep();
        Check.same("disk(60, 6)", high.disk(60, 6), 255);
        Check.same("disk(60, 7)", high.disk(60, 7), 128);
    }

    /** Each page has its number + 1 in byte 100; an object has calls enough for 48 pages. */
    private static void everyPage() {
        for (int from = 0; from < 192; from += 48) {
            BufferDesk desk = Desks.full();
            desk.unpin(0);
            for (int page = from; page < from + 48; page++) {
                int frame = desk.pin(page);
                desk.set(frame, 100, page + 1, 0);
                desk.unpin(frame);
            }
            desk.sweep();
            for (int page = from; page < from + 48; page++) {
                Check.same("disk(" + page + ", 100)", desk.disk(page, 100), page + 1);
                Check.same("disk(" + page + ", 511)", desk.disk(page, 511), 1);
            }
        }
    }

    private static void asOnTheDisk() {
        BufferDesk desk = new BufferDesk();
        desk.pin(60);
        desk.set(0, 6, 200, 0);
        Check.same("disk(60, 6), not written", desk.disk(60, 6), 0);
        desk.sweep();
        Check.same("disk(60, 6), written", desk.disk(60, 6), 200);
        desk.set(0, 6, 201, 7);
        Check.same("disk(60, 6), set again", desk.disk(60, 6), 200);
        Check.same("disk(60, 5), set again", desk.disk(60, 5), 0);
        Check.same("count(1)", desk.count(1), 1);
        Check.same("count(2)", desk.count(2), 8);
    }

    private static void noSuchPage() {
        BufferDesk desk = new BufferDesk();
        Check.same("disk(192, 0)", desk.disk(192, 0), -1);
        Check.same("disk(192, 511)", desk.disk(192, 511), -1);
        for (int page : Desks.FAR) {
            Check.same("disk(" + page + ", 0)", desk.disk(page, 0), -1);
            Check.same("disk(" + page + ", 511)", desk.disk(page, 511), -1);
            Check.same("disk(" + page + ", " + page + ")", desk.disk(page, page), -1);
        }
        // Page times 512 is a small number again in an int.
        Check.same("disk(8388608, 0)", desk.disk(8388608, 0), -1);
        Check.same("disk(0, 0)", desk.disk(0, 0), 0);
        Check.same("disk(191, 0)", desk.disk(191, 0), 0);
    }

    private static void noSuchByte() {
        BufferDesk desk = new BufferDesk();
        int[] pages = {0, 1, 190, 191};
        for (int page : pages) {
            Check.same("disk(" + page + ", 512)", desk.disk(page, 512), -1);
            for (int i : Desks.FAR) {
                Check.same("disk(" + page + ", " + i + ")", desk.disk(page, i), -1);
            }
            Check.same("disk(" + page + ", 0)", desk.disk(page, 0), 0);
            Check.same("disk(" + page + ", 511)", desk.disk(page, 511), 0);
        }
    }
}
