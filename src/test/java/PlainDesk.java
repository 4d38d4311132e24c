import java.util.ArrayList;
import java.util.Comparator;
import java.util.List;
import java.util.NoSuchElementException;

/** A second telling of the document, slow and plain, that ModelTest holds BufferDesk against. */
final class PlainDesk {
    private static final class Held {
        final int page;
        final int[] content = new int[512];
        int pins = 1;
        int use = 1;
        boolean dirty = false;

        Held(int page) {
            this.page = page;
        }

        long place() {
            return ((content[2] * 256L + content[3]) * 256L + content[4]) * 256L + content[5];
        }
    }

    private final int[][] platter = new int[192][512];
    private final Held[] pool = new Held[12];
    private int hand = 0;
    private int reads = 0;
    private int sectors = 0;
    private int flushedTo = 0;
    private int flushes = 0;
    private boolean charged = false;
    private int left = 0;

    int pin(int page) {
        if (page < 0 || page > 191) {
            throw new IllegalArgumentException();
        }
        for (int f = 0; f < 12; f++) {
            if (pool[f] != null && pool[f].page == page) {
                pool[f].pins++;
                if (pool[f].use < 3) {
                    pool[f].use++;
                }
                return f;
            }
        }
        if (noRoom()) {
            throw new IllegalStateException();
        }
        if (torn(page)) {
            throw new NoSuchElementException();
        }
        int f = room();
        pool[f] = new Held(page);
        for (int i = 0; i < 512; i++) {
            pool[f].content[i] = platter[page][i];
        }
        reads++;
        return f;
    }

    int remake(int page) {
        if (page < 0 || page > 191) {
            throw new IllegalArgumentException();
        }
        for (Held held : pool) {
            if (held != null && held.page == page) {
                throw new IllegalStateException();
            }
        }
        if (noRoom()) {
            throw new IllegalStateException();
        }
        int f = room();
        pool[f] = new Held(page);
        pool[f].content[0] = platter[page][0];
        pool[f].content[1] = platter[page][1];
        pool[f].content[510] = platter[page][0];
        pool[f].content[511] = platter[page][1];
        return f;
    }

    boolean unpin(int frame) {
        Held held = held(frame);
        if (held == null || held.pins == 0) {
            return false;
        }
        held.pins--;
        return true;
    }

    int get(int frame, int i) {
        Held held = held(frame);
        return held == null || i < 0 || i > 511 ? -1 : held.content[i];
    }

    boolean set(int frame, int i, int v, int place) {
        Held held = held(frame);
        if (held == null || held.pins == 0 || i < 6 || i > 509 || place < held.place()) {
            return false;
        }
        held.content[i] = Math.floorMod(v, 256);
        held.content[2] = place / 16777216;
        held.content[3] = place / 65536 % 256;
        held.content[4] = place / 256 % 256;
        held.content[5] = place % 256;
        held.dirty = true;
        return true;
    }

    int clean(int n) {
        if (n < 1 || n > 12) {
            throw new IllegalArgumentException();
        }
        List<Held> due = new ArrayList<>();
        for (int k = 0; k < 12; k++) {
            Held held = pool[(hand + k) % 12];
            if (held != null && held.dirty && held.pins == 0 && due.size() < n) {
                due.add(held);
            }
        }
        due.forEach(this::write);
        return due.size();
    }

    int sweep() {
        List<Held> due = new ArrayList<>();
        for (Held held : pool) {
            if (held != null && held.dirty) {
                due.add(held);
            }
        }
        due.sort(Comparator.comparingInt(held -> held.page));
        due.forEach(this::write);
        return due.size();
    }

    void charge(int n) {
        if (n < 0 || n > 999) {
            throw new IllegalArgumentException();
        }
        charged = true;
        left = n;
    }

    boolean flushed(int place) {
        boolean farther = place > flushedTo;
        flushedTo = Math.max(flushedTo, place);
        return farther;
    }

    int look(int frame, int what) {
        Held held = held(frame);
        if (held == null || what < 0 || what > 4) {
            return -1;
        }
        long[] answers = {held.page, held.pins, held.use, held.dirty ? 1 : 0, held.place()};
        return (int) answers[what];
    }

    int disk(int page, int i) {
        return page < 0 || page > 191 || i < 0 || i > 511 ? -1 : platter[page][i];
    }

    boolean torn(int page) {
        if (page < 0 || page > 191) {
            return false;
        }
        return platter[page][0] != platter[page][510] || platter[page][1] != platter[page][511];
    }

    int count(int what) {
        int full = 0;
        for (Held held : pool) {
            full += held == null ? 0 : 1;
        }
        int[] answers = {hand, reads, sectors, flushedTo, flushes, full};
        return what < 0 || what > 5 ? -1 : answers[what];
    }

    private Held held(int frame) {
        return frame < 0 || frame > 11 ? null : pool[frame];
    }

    private boolean noRoom() {
        for (Held held : pool) {
            if (held == null || held.pins == 0) {
                return false;
            }
        }
        return true;
    }

    private int room() {
        for (int f = 0; f < 12; f++) {
            if (pool[f] == null) {
                return f;
            }
        }
        while (true) {
            int f = hand;
            hand = (hand + 1) % 12;
            if (pool[f].pins > 0) {
                continue;
            }
            if (pool[f].use == 0) {
                if (pool[f].dirty) {
                    write(pool[f]);
                }
                return f;
            }
            pool[f].use--;
        }
    }

    private void write(Held held) {
        if (flushedTo < held.place()) {
            flushedTo = (int) held.place();
            flushes++;
        }
        int stamp = (held.content[0] * 256 + held.content[1] + 1) % 65536;
        held.content[0] = stamp / 256;
        held.content[1] = stamp % 256;
        held.content[510] = stamp / 256;
        held.content[511] = stamp % 256;
        for (int i = 0; i < 512; i++) {
            if (i % 64 == 0) {
                beginSector();
            }
            platter[held.page][i] = held.content[i];
        }
        held.dirty = false;
    }

    private void beginSector() {
        if (charged && left == 0) {
            for (int f = 0; f < 12; f++) {
                pool[f] = null;
            }
            hand = 0;
            charged = false;
            throw new UnsupportedOperationException();
        }
        left--;
        sectors++;
    }
}
