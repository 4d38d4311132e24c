/** Promise 5: get. */
public final class GetTest {
    public static void main(String[] args) {
        Sentence.holds("Byte i of the page in a frame", GetTest::everyByte);
        Sentence.holds("0 .. 255", GetTest::everyValue);
        Sentence.holds("in a frame, with pins or without", GetTest::withoutPins);
        Sentence.holds("-1 if there is no such frame", GetTest::noSuchFrame);
        Sentence.holds("or byte", GetTest::noSuchByte);
        Sentence.holds("or it is empty", GetTest::emptyFrame);
        Check.end();
    }

    /** Byte i is i % 251 + 1; the object that is set and the ones that are asked hold to 512 calls each. */
    private static void everyByte() {
        for (int from = 6; from <= 509; from += 72) {
            BufferDesk desk = Desks.full();
            for (int i = from; i < from + 72 && i <= 509; i++) {
                desk.set(11, i, i % 251 + 1, 0x7A8B9CAD);
            }
            for (int i = from; i < from + 72 && i <= 509; i++) {
                Check.same("get(11, " + i + ")", desk.get(11, i), i % 251 + 1);
            }
            Check.same("get(11, " + (from - 1) + ")", desk.get(11, from - 1), from == 6 ? 0xAD : 0);
            Check.same("get(10, " + from + ")", desk.get(10, from), 0);
        }
        BufferDesk desk = new BufferDesk();
        desk.pin(5);
        desk.set(0, 509, 77, 0x7A8B9CAD);
        desk.sweep();
        int[] due = {0, 1, 0x7A, 0x8B, 0x9C, 0xAD, 0};
        for (int i = 0; i < due.length; i++) {
            Check.same("get(0, " + i + ")", desk.get(0, i), due[i]);
        }
        Check.same("get(0, 509)", desk.get(0, 509), 77);
        Check.same("get(0, 510)", desk.get(0, 510), 0);
        Check.same("get(0, 511)", desk.get(0, 511), 1);
    }

    private static void everyValue() {
        BufferDesk desk = new BufferDesk();
        desk.pin(5);
        for (int v = 0; v <= 255; v++) {
            if (v == 250) {
                desk = new BufferDesk();
                desk.pin(5);
            }
            desk.set(0, 6, v, 0);
            Check.same("get(0, 6)", desk.get(0, 6), v);
        }
    }

    private static void withoutPins() {
        BufferDesk desk = new BufferDesk();
        desk.pin(5);
        desk.set(0, 6, 255, 0);
        desk.unpin(0);
        Check.same("get(0, 6)", desk.get(0, 6), 255);
    }

    private static void noSuchFrame() {
        BufferDesk desk = Desks.full();
        Check.same("get(12, 6)", desk.get(12, 6), -1);
        for (int frame : Desks.FAR) {
            Check.same("get(" + frame + ", 6)", desk.get(frame, 6), -1);
            Check.same("get(" + frame + ", " + frame + ")", desk.get(frame, frame), -1);
        }
        Check.same("get(0, 6)", desk.get(0, 6), 0);
        Check.same("get(11, 6)", desk.get(11, 6), 0);
    }

    private static void noSuchByte() {
        BufferDesk desk = Desks.full();
        for (int frame = 0; frame < 12; frame += 11) {
            Check.same("get(" + frame + ", 512)", desk.get(frame, 512), -1);
            for (int i : Desks.FAR) {
                Check.same("get(" + frame + ", " + i + ")", desk.get(frame, i), -1);
            }
            Check.same("get(" + frame + ", 0)", desk.get(frame, 0), 0);
            Check.same("get(" + frame + ", 511)", desk.get(frame, 511), 0);
        }
    }

    private static void emptyFrame() {
        BufferDesk desk = new BufferDesk();
        Check.same("get(0, 6), new", desk.get(0, 6), -1);
        desk.pin(5);
        Check.same("get(1, 6)", desk.get(1, 6), -1);
        Check.same("get(11, 6)", desk.get(11, 6), -1);
        Check.same("get(1, 512)", desk.get(1, 512), -1);
        desk.set(0, 6, 1, 0);
        desk.charge(0);
        Check.powerGoes("sweep()", desk::sweep);
        Check.same("get(0, 6) behind the cut", desk.get(0, 6), -1);
        Check.same("get(0, 0) behind the cut", desk.get(0, 0), -1);
    }
}
