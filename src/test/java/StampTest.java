/** Terms: sectors, stamps, the place, and when a page is torn. */
public final class StampTest {
    public static void main(String[] args) {
        Sentence.holds("in eight SECTORS of 64", StampTest::sectorsOf64);
        Sentence.holds("Bytes 0 and 1 of a page, and 510 and 511, are its two STAMPS", StampTest::whereStampsAre);
        Sentence.holds("(the higher byte first)", StampTest::higherByteFirst);
        Sentence.holds("2 .. 5 its PLACE in the log (an int, the highest byte first)", StampTest::placeBytes);
        Sentence.holds("A page is TORN if the stamps are not the same.", StampTest::tornByCut);
        Sentence.holds("A page is TORN if the stamps are not the same, in whichever byte", StampTest::tornByHigherByte);
        Sentence.holds("both stamps in the frame become the first one + 1", StampTest::bothBecomeTheFirstPlusOne);
        Sentence.holds("(behind 65535 comes 0)", StampTest::wrapsAround);
        Sentence.holds("both the first one on the disk, its higher byte too", StampTest::remakeTakesBothBytes);
        Check.end();
    }

    /** Page 70 is written so often, in frame 0 with a pin. */
    private static BufferDesk written(int times) {
        BufferDesk desk = new BufferDesk();
        desk.pin(70);
        writeAgain(desk, times);
        return desk;
    }

    private static void writeAgain(BufferDesk desk, int times) {
        for (int time = 0; time < times; time++) {
            desk.set(0, 6, 1, 0);
            desk.sweep();
        }
    }

    private static void cut(BufferDesk desk, int sectors) {
        desk.set(0, 6, 1, 0);
        desk.charge(sectors);
        Check.powerGoes("sweep() with a charge of " + sectors, desk::sweep);
    }

    private static void stampsOnDisk(BufferDesk desk, int first, int last) {
        Check.same("disk(70, 0)", desk.disk(70, 0), first / 256);
        Check.same("disk(70, 1)", desk.disk(70, 1), first % 256);
        Check.same("disk(70, 510)", desk.disk(70, 510), last / 256);
        Check.same("disk(70, 511)", desk.disk(70, 511), last % 256);
    }

    private static void stampsInFrame(BufferDesk desk, int stamp) {
        Check.same("get(0, 0)", desk.get(0, 0), stamp / 256);
        Check.same("get(0, 1)", desk.get(0, 1), stamp % 256);
        Check.same("get(0, 510)", desk.get(0, 510), stamp / 256);
        Check.same("get(0, 511)", desk.get(0, 511), stamp % 256);
    }

    private static void sectorsOf64() {
        for (int sectors = 1; sectors <= 7; sectors++) {
            BufferDesk desk = new BufferDesk();
            desk.pin(70);
            desk.set(0, sectors * 64 - 1, 11, 0);
            desk.set(0, sectors * 64, 12, 0);
            desk.charge(sectors);
            Check.powerGoes("sweep() with a charge of " + sectors, desk::sweep);
            Check.same("last byte of sector " + (sectors - 1), desk.disk(70, sectors * 64 - 1), 11);
            Check.same("first byte of sector " + sectors, desk.disk(70, sectors * 64), 0);
        }
        BufferDesk whole = new BufferDesk();
        whole.pin(70);
        whole.set(0, 509, 13, 0);
        whole.charge(8);
        Check.same("sweep() with a charge of 8", whole.sweep(), 1);
        Check.same("disk(70, 509)", whole.disk(70, 509), 13);
        Check.same("count(2)", whole.count(2), 8);
    }

    private static void whereStampsAre() {
        BufferDesk desk = written(3);
        stampsOnDisk(desk, 3, 3);
        stampsInFrame(desk, 3);
        Check.same("disk(70, 2)", desk.disk(70, 2), 0);
        Check.same("disk(70, 509)", desk.disk(70, 509), 0);
    }

    /** 512 calls come to stamp 255 alone: what is seen beyond is no promise, but the sentence has no other test. */
    private static void higherByteFirst() {
        BufferDesk desk = written(255);
        Check.same("disk(70, 1)", desk.disk(70, 1), 255);
        writeAgain(desk, 1);
        stampsOnDisk(desk, 256, 256);
        stampsInFrame(desk, 256);
        Check.no("torn(70)", desk.torn(70));
        writeAgain(desk, 255);
        stampsOnDisk(desk, 511, 511);
        writeAgain(desk, 1);
        stampsOnDisk(desk, 512, 512);
    }

    private static void placeBytes() {
        int[] places = {0, 1, 255, 256, 65535, 65536, 16777215, 16777216, 0x01020304, 0x7F80FF01, Integer.MAX_VALUE};
        BufferDesk desk = new BufferDesk();
        desk.pin(70);
        for (int place : places) {
            desk.set(0, 6, 0, place);
            desk.sweep();
            Check.same("look(0, 4)", desk.look(0, 4), place);
            for (int k = 0; k < 4; k++) {
                int due = place >> (24 - 8 * k) & 255;
                Check.same("get(0, " + (2 + k) + ") of place " + place, desk.get(0, 2 + k), due);
                Check.same("disk(70, " + (2 + k) + ") of place " + place, desk.disk(70, 2 + k), due);
            }
        }
        Check.same("get(0, 1)", desk.get(0, 1), places.length);
        Check.same("get(0, 6)", desk.get(0, 6), 0);
    }

    private static void tornByCut() {
        for (int sectors = 0; sectors <= 8; sectors++) {
            BufferDesk desk = written(4);
            desk.set(0, 6, 1, 0);
            desk.charge(sectors);
            if (sectors < 8) {
                Check.powerGoes("sweep() with a charge of " + sectors, desk::sweep);
            } else {
                desk.sweep();
            }
            stampsOnDisk(desk, sectors > 0 ? 5 : 4, sectors > 7 ? 5 : 4);
            boolean due = sectors > 0 && sectors < 8;
            Check.same("torn(70), charge " + sectors, desk.torn(70) ? 1 : 0, due ? 1 : 0);
        }
    }

    /** A first stamp of 256 over a last one of 0: only more than 512 calls come to it. */
    private static void tornByHigherByte() {
        BufferDesk desk = new BufferDesk();
        for (int time = 1; time <= 256; time++) {
            desk.remake(70);
            cut(desk, 1);
        }
        stampsOnDisk(desk, 256, 0);
        Check.yes("torn(70)", desk.torn(70));
        desk.remake(70);
        cut(desk, 1);
        stampsOnDisk(desk, 257, 0);
        Check.yes("torn(70)", desk.torn(70));
    }

    private static void bothBecomeTheFirstPlusOne() {
        BufferDesk desk = written(2);
        stampsInFrame(desk, 2);
        cut(desk, 1);
        stampsOnDisk(desk, 3, 2);
        desk.remake(70);
        stampsInFrame(desk, 3);
        writeAgain(desk, 1);
        stampsInFrame(desk, 4);
        stampsOnDisk(desk, 4, 4);
        desk.set(0, 6, 1, 0);
        stampsInFrame(desk, 4);
    }

    /** Only far more than 512 calls come to it. */
    private static void wrapsAround() {
        BufferDesk desk = written(65535);
        stampsOnDisk(desk, 65535, 65535);
        stampsInFrame(desk, 65535);
        Check.no("torn(70)", desk.torn(70));
        writeAgain(desk, 1);
        stampsOnDisk(desk, 0, 0);
        stampsInFrame(desk, 0);
        Check.no("torn(70)", desk.torn(70));
        writeAgain(desk, 1);
        stampsOnDisk(desk, 1, 1);
        BufferDesk torn = written(65535);
        cut(torn, 7);
        stampsOnDisk(torn, 0, 65535);
        Check.yes("torn(70)", torn.torn(70));
    }

    private static void remakeTakesBothBytes() {
        BufferDesk desk = written(300);
        cut(desk, 1);
        stampsOnDisk(desk, 301, 300);
        desk.remake(70);
        stampsInFrame(desk, 301);
    }
}
