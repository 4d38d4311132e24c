import java.util.Arrays;
import java.util.NoSuchElementException;

/** Pages of a disk that is written sector by sector, behind a pool of frames with pins and a clock hand. */
public final class BufferDesk {
    private static final int PAGES = 192;
    private static final int PAGE_BYTES = 512;
    private static final int SECTORS = 8;
    private static final int SECTOR_BYTES = 64;
    private static final int FRAMES = 12;
    private static final int MOST_USE = 3;
    private static final int MOST_CHARGE = 999;

    private static final int FIRST_STAMP = 0;
    private static final int LAST_STAMP = 510;
    private static final int PLACE = 2;
    private static final int FIRST_FREE_BYTE = 6;
    private static final int LAST_FREE_BYTE = 509;

    private static final int NONE = -1;
    private static final int NO_PAGE = -1;
    private static final int NO_CHARGE = -1;

    // After MOST_USE rounds every frame without pins has use 0, so one round more meets such a frame.
    private static final int MOST_HAND_STEPS = (MOST_USE + 1) * FRAMES;

    private final Drive drive;
    private final Log log;
    private final Frame[] frames;
    private int hand;

    public BufferDesk() {
        drive = new Drive();
        log = new Log();
        frames = new Frame[FRAMES];
        for (int f = 0; f < FRAMES; f++) {
            frames[f] = new Frame();
        }
        hand = 0;
    }

    public int pin(int page)
            throws IllegalArgumentException, IllegalStateException, NoSuchElementException,
                    UnsupportedOperationException {
        if (!isPage(page)) {
            throw new IllegalArgumentException("there is no such page");
        }
        int holder = frameWith(page);
        if (holder != NONE) {
            frames[holder].addPin();
            return holder;
        }
        if (allHavePins()) {
            throw new IllegalStateException("all frames have pins");
        }
        // Looked at before a frame is found: finding moves the hand and may write, and a refusal changes nothing.
        if (drive.isTorn(page)) {
            throw new NoSuchElementException("the page is torn");
        }
        int found = findFrame();
        frames[found].takePage(page);
        drive.readPage(page, frames[found].bytes);
        return found;
    }

    public int remake(int page)
            throws IllegalArgumentException, IllegalStateException, UnsupportedOperationException {
        if (!isPage(page)) {
            throw new IllegalArgumentException("there is no such page");
        }
        if (frameWith(page) != NONE) {
            throw new IllegalStateException("a frame has the page");
        }
        if (allHavePins()) {
            throw new IllegalStateException("all frames have pins");
        }
        int found = findFrame();
        frames[found].takePage(page);
        frames[found].blank(drive.firstStamp(page));
        return found;
    }

    public boolean unpin(int frame) {
        if (!isFrame(frame) || !frames[frame].hasPins()) {
            return false;
        }
        frames[frame].dropPin();
        return true;
    }

    public int get(int frame, int i) {
        if (!isFrame(frame) || !isByte(i) || frames[frame].isEmpty()) {
            return NONE;
        }
        return frames[frame].bytes[i] & 255;
    }

    public boolean set(int frame, int i, int v, int place) {
        if (!isFrame(frame) || i < FIRST_FREE_BYTE || i > LAST_FREE_BYTE) {
            return false;
        }
        if (!frames[frame].hasPins() || place < frames[frame].place()) {
            return false;
        }
        frames[frame].change(i, v, place);
        return true;
    }

    public int clean(int n) throws IllegalArgumentException, UnsupportedOperationException {
        if (n < 1 || n > FRAMES) {
            throw new IllegalArgumentException("n is not 1 .. 12");
        }
        int written = 0;
        int f = hand;
        for (int step = 0; step < FRAMES && written < n; step++) {
            if (frames[f].dirty && !frames[f].hasPins()) {
                writePageOf(frames[f]);
                written++;
            }
            f = frameBehind(f);
        }
        return written;
    }

    public int sweep() throws UnsupportedOperationException {
        int written = 0;
        int f = dirtyFrameOfLowestPage();
        while (f != NONE && written < FRAMES) {
            writePageOf(frames[f]);
            written++;
            f = dirtyFrameOfLowestPage();
        }
        return written;
    }

    public void charge(int n) throws IllegalArgumentException {
        if (n < 0 || n > MOST_CHARGE) {
            throw new IllegalArgumentException("n is not 0 .. 999");
        }
        drive.sectorsLeft = n;
    }

    public boolean flushed(int place) {
        return log.advance(place);
    }

    public int look(int frame, int what) {
        if (!isFrame(frame) || frames[frame].isEmpty()) {
            return NONE;
        }
        switch (what) {
            case 0:
                return frames[frame].page;
            case 1:
                return frames[frame].pins;
            case 2:
                return frames[frame].use;
            case 3:
                return frames[frame].dirty ? 1 : 0;
            case 4:
                return frames[frame].place();
            default:
                return NONE;
        }
    }

    public int disk(int page, int i) {
        if (!isPage(page) || !isByte(i)) {
            return NONE;
        }
        return drive.byteAt(page, i);
    }

    public boolean torn(int page) {
        return isPage(page) && drive.isTorn(page);
    }

    public int count(int what) {
        switch (what) {
            case 0:
                return hand;
            case 1:
                return drive.pagesRead;
            case 2:
                return drive.sectorsWritten;
            case 3:
                return log.end;
            case 4:
                return log.flushes;
            case 5:
                return framesWithPages();
            default:
                return NONE;
        }
    }

    private static boolean isPage(int page) {
        return page >= 0 && page < PAGES;
    }

    private static boolean isFrame(int frame) {
        return frame >= 0 && frame < FRAMES;
    }

    private static boolean isByte(int i) {
        return i >= 0 && i < PAGE_BYTES;
    }

    private static int frameBehind(int frame) {
        return frame + 1 < FRAMES ? frame + 1 : 0;
    }

    private static int twoBytes(byte[] bytes, int at) {
        return ((bytes[at] & 255) << 8) | (bytes[at + 1] & 255);
    }

    /** The lowest one, for NO_PAGE the lowest empty one. */
    private int frameWith(int page) {
        for (int f = 0; f < FRAMES; f++) {
            if (frames[f].page == page) {
                return f;
            }
        }
        return NONE;
    }

    private boolean allHavePins() {
        for (int f = 0; f < FRAMES; f++) {
            if (!frames[f].hasPins()) {
                return false;
            }
        }
        return true;
    }

    private int framesWithPages() {
        int full = 0;
        for (int f = 0; f < FRAMES; f++) {
            if (!frames[f].isEmpty()) {
                full++;
            }
        }
        return full;
    }

    private int dirtyFrameOfLowestPage() {
        int best = NONE;
        for (int f = 0; f < FRAMES; f++) {
            if (frames[f].dirty && (best == NONE || frames[f].page < frames[best].page)) {
                best = f;
            }
        }
        return best;
    }

    /** Only for a pool in which some frame has no pins. */
    private int findFrame() {
        int found = frameWith(NO_PAGE);
        if (found != NONE) {
            return found;
        }
        found = frameByHand();
        if (frames[found].dirty) {
            writePageOf(frames[found]);
        }
        return found;
    }

    private int frameByHand() {
        for (int step = 0; step < MOST_HAND_STEPS && !frames[hand].canBeTaken(); step++) {
            frames[hand].passBy();
            hand = frameBehind(hand);
        }
        int found = hand;
        hand = frameBehind(found);
        return found;
    }

    private void writePageOf(Frame frame) {
        log.reach(frame.place());
        frame.raiseStamps();
        for (int sector = 0; sector < SECTORS; sector++) {
            if (!drive.writeSector(frame.page, sector, frame.bytes)) {
                losePower();
                throw new UnsupportedOperationException("the power went");
            }
        }
        frame.dirty = false;
    }

    private void losePower() {
        for (int f = 0; f < FRAMES; f++) {
            frames[f].dropPage();
        }
        hand = 0;
        drive.sectorsLeft = NO_CHARGE;
    }

    private static final class Frame {
        private final byte[] bytes = new byte[PAGE_BYTES];
        private int page = NO_PAGE;
        private int pins;
        private int use;
        private boolean dirty;

        boolean isEmpty() {
            return page == NO_PAGE;
        }

        boolean hasPins() {
            return pins > 0;
        }

        boolean canBeTaken() {
            return pins == 0 && use == 0;
        }

        void addPin() {
            pins++;
            use = Math.min(use + 1, MOST_USE);
        }

        void dropPin() {
            pins--;
        }

        void passBy() {
            if (pins == 0 && use > 0) {
                use--;
            }
        }

        void takePage(int newPage) {
            page = newPage;
            pins = 1;
            use = 1;
            dirty = false;
        }

        void dropPage() {
            page = NO_PAGE;
            pins = 0;
            use = 0;
            dirty = false;
        }

        int place() {
            return (twoBytes(bytes, PLACE) << 16) | twoBytes(bytes, PLACE + 2);
        }

        void change(int i, int v, int place) {
            bytes[i] = (byte) v;
            bytes[PLACE] = (byte) (place >>> 24);
            bytes[PLACE + 1] = (byte) (place >>> 16);
            bytes[PLACE + 2] = (byte) (place >>> 8);
            bytes[PLACE + 3] = (byte) place;
            dirty = true;
        }

        void blank(int stamp) {
            Arrays.fill(bytes, (byte) 0);
            putStamps(stamp);
        }

        void raiseStamps() {
            putStamps(twoBytes(bytes, FIRST_STAMP) + 1);
        }

        // The bytes keep the lowest sixteen bits alone, so 0 comes behind 65535 by itself.
        private void putStamps(int stamp) {
            bytes[FIRST_STAMP] = (byte) (stamp >>> 8);
            bytes[FIRST_STAMP + 1] = (byte) stamp;
            bytes[LAST_STAMP] = bytes[FIRST_STAMP];
            bytes[LAST_STAMP + 1] = bytes[FIRST_STAMP + 1];
        }
    }

    private static final class Drive {
        private final byte[] bytes = new byte[PAGES * PAGE_BYTES];
        private int sectorsLeft = NO_CHARGE;
        private int sectorsWritten;
        private int pagesRead;

        int byteAt(int page, int i) {
            return bytes[page * PAGE_BYTES + i] & 255;
        }

        int firstStamp(int page) {
            return twoBytes(bytes, page * PAGE_BYTES + FIRST_STAMP);
        }

        boolean isTorn(int page) {
            return firstStamp(page) != twoBytes(bytes, page * PAGE_BYTES + LAST_STAMP);
        }

        void readPage(int page, byte[] target) {
            System.arraycopy(bytes, page * PAGE_BYTES, target, 0, PAGE_BYTES);
            pagesRead++;
        }

        /** False, and nothing written, if the charge is used up. */
        boolean writeSector(int page, int sector, byte[] source) {
            if (sectorsLeft == 0) {
                return false;
            }
            if (sectorsLeft != NO_CHARGE) {
                sectorsLeft--;
            }
            int from = sector * SECTOR_BYTES;
            System.arraycopy(source, from, bytes, page * PAGE_BYTES + from, SECTOR_BYTES);
            sectorsWritten++;
            return true;
        }
    }

    private static final class Log {
        private int end;
        private int flushes;

        boolean advance(int place) {
            if (place <= end) {
                return false;
            }
            end = place;
            return true;
        }

        void reach(int place) {
            if (advance(place)) {
                flushes++;
            }
        }
    }
}
