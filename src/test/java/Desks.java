/** Objects brought into a state that several tests start from. */
final class Desks {
    /** Neither a page, nor a frame, nor a byte, nor a what, nor a charge. */
    static final int[] FAR = {Integer.MIN_VALUE, -1000000, -2, -1, 1000, 65536, Integer.MAX_VALUE};

    private Desks() {}

    /** Page p is in frame p, with one pin and use 1, clean; the hand is at 0. */
    static BufferDesk full() {
        BufferDesk desk = new BufferDesk();
        for (int page = 0; page < 12; page++) {
            desk.pin(page);
        }
        return desk;
    }

    /** As full, but without pins; each frame is dirty, page p with p + 1 in byte 100 and place 0. */
    static BufferDesk fullAndDirty() {
        BufferDesk desk = full();
        for (int frame = 0; frame < 12; frame++) {
            desk.set(frame, 100, frame + 1, 0);
            desk.unpin(frame);
        }
        return desk;
    }

    /** As full, but the hand points at another frame, and the frame before that one has page 20. */
    static BufferDesk fullWithHandAt(int hand) {
        BufferDesk desk = full();
        int before = (hand + 11) % 12;
        desk.unpin(before);
        desk.pin(20);
        return desk;
    }

    /** For a frame with one pin and use 1: it has no pins and this use (1 .. 3) then. */
    static void leaveWithUse(BufferDesk desk, int frame, int use) {
        int page = desk.look(frame, 0);
        for (int more = 1; more < use; more++) {
            desk.pin(page);
            desk.unpin(frame);
        }
        desk.unpin(frame);
    }

    /** Only for an object with nothing dirty and no other charge: the page ends torn, the pool empty. */
    static void tear(BufferDesk desk, int page, int sectors) {
        int frame = desk.pin(page);
        desk.set(frame, 6, 77, desk.look(frame, 4));
        desk.charge(sectors);
        Check.powerGoes("sweep() with a charge of " + sectors, desk::sweep);
    }

    /** All counts and frames: 78 calls, so a run has room for five such views. */
    static String view(BufferDesk desk) {
        StringBuilder text = new StringBuilder("counts");
        for (int what = 0; what <= 5; what++) {
            text.append(' ').append(desk.count(what));
        }
        for (int frame = 0; frame < 12; frame++) {
            text.append("\nframe ").append(frame);
            for (int what = 0; what <= 4; what++) {
                text.append(' ').append(desk.look(frame, what));
            }
            text.append(' ').append(desk.get(frame, 100));
        }
        return text.toString();
    }
}
