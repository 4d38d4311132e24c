import java.util.Map;
import java.util.Random;
import java.util.TreeMap;
import java.util.function.Supplier;

/** Long runs of calls, the same in each test, with each answer held against PlainDesk. */
public final class ModelTest {
    private static final int RUNS = 3000;
    private static final int CALLS = 512;
    private static final int[] ODD = {-1, -2, 12, 192, 512, 1000, Integer.MIN_VALUE, Integer.MAX_VALUE};
    private static final int[] EDGES = {0, 1, 2, 5, 6, 63, 64, 127, 128, 447, 448, 509, 510, 511};

    private final Random random;
    private final BufferDesk desk = new BufferDesk();
    private final PlainDesk plain = new PlainDesk();
    private final Map<String, Integer> thrown;
    private final int pages;
    private final int unpinning;
    private int place = 0;

    private ModelTest(int seed, Map<String, Integer> thrown) {
        this.random = new Random(seed);
        this.thrown = thrown;
        this.pages = seed % 3 == 0 ? 192 : 14 + seed % 10;
        this.unpinning = 15 + seed % 4 * 5;
    }

    public static void main(String[] args) {
        Map<String, Integer> thrown = new TreeMap<>();
        boolean good = true;
        for (int seed = 0; seed < RUNS && good; seed++) {
            good = new ModelTest(seed, thrown).run(seed);
        }
        // Runs that never come to a refusal would prove little.
        Check.same("kinds of exceptions met", thrown.size(), 4);
        Check.end();
    }

    private boolean run(int seed) {
        for (int call = 0; call < CALLS; call++) {
            if (!step("run " + seed + ", call " + call + ": ")) {
                return false;
            }
        }
        return true;
    }

    private boolean step(String at) {
        int kind = random.nextInt(100 + unpinning);
        int page = odd() ? oddNumber() : random.nextInt(pages);
        int frame = odd() ? oddNumber() : random.nextInt(12);
        int i = odd() ? oddNumber() : byteNumber();
        if (kind < 25) {
            return same(at + "pin " + page, () -> desk.pin(page), () -> plain.pin(page));
        } else if (kind < 30) {
            return same(at + "remake " + page, () -> desk.remake(page), () -> plain.remake(page));
        } else if (kind < 55) {
            int v = random.nextInt();
            int to = nextPlace();
            String name = at + "set " + frame + " " + i + " " + v + " " + to;
            return same(name, () -> desk.set(frame, i, v, to), () -> plain.set(frame, i, v, to));
        } else if (kind < 58) {
            int n = random.nextInt(14);
            return same(at + "clean " + n, () -> desk.clean(n), () -> plain.clean(n));
        } else if (kind < 60) {
            return same(at + "sweep", desk::sweep, plain::sweep);
        } else if (kind < 62) {
            return stepCharge(at);
        } else if (kind < 64) {
            int to = nextPlace();
            return same(at + "flushed " + to, () -> desk.flushed(to), () -> plain.flushed(to));
        } else if (kind < 100) {
            return stepLooking(at, page, frame, i);
        }
        return same(at + "unpin " + frame, () -> desk.unpin(frame), () -> plain.unpin(frame));
    }

    private boolean stepLooking(String at, int page, int frame, int i) {
        int what = random.nextInt(8) - 1;
        switch (random.nextInt(5)) {
            case 0:
                return same(at + "get " + frame + " " + i, () -> desk.get(frame, i), () -> plain.get(frame, i));
            case 1:
                return same(at + "look " + frame + " " + what,
                        () -> desk.look(frame, what), () -> plain.look(frame, what));
            case 2:
                return same(at + "disk " + page + " " + i, () -> desk.disk(page, i), () -> plain.disk(page, i));
            case 3:
                return same(at + "torn " + page, () -> desk.torn(page), () -> plain.torn(page));
            default:
                return same(at + "count " + what, () -> desk.count(what), () -> plain.count(what));
        }
    }

    private boolean stepCharge(String at) {
        int n = odd() ? oddNumber() : random.nextInt(40);
        return same(at + "charge " + n, () -> {
            desk.charge(n);
            return "done";
        }, () -> {
            plain.charge(n);
            return "done";
        });
    }

    private boolean odd() {
        return random.nextInt(40) == 0;
    }

    private int oddNumber() {
        return ODD[random.nextInt(ODD.length)];
    }

    private int byteNumber() {
        return random.nextBoolean() ? EDGES[random.nextInt(EDGES.length)] : random.nextInt(512);
    }

    private int nextPlace() {
        place += random.nextInt(4) == 0 ? random.nextInt(70000) : random.nextInt(3);
        int back = random.nextInt(6) == 0 ? random.nextInt(100) : 0;
        return random.nextInt(3000) == 0 ? oddNumber() : place - back;
    }

    private boolean same(String what, Supplier<Object> got, Supplier<Object> due) {
        String wanted = answer(due);
        String given = answer(got);
        if (wanted.startsWith("throws ")) {
            thrown.merge(wanted, 1, Integer::sum);
        }
        Check.same(what, given, wanted);
        return given.equals(wanted);
    }

    private static String answer(Supplier<Object> call) {
        try {
            return String.valueOf(call.get());
        } catch (RuntimeException e) {
            return "throws " + e.getClass().getName();
        }
    }
}
