import java.util.ArrayList;
import java.util.LinkedHashMap;
import java.util.List;
import java.util.Map;
import java.util.NoSuchElementException;
import java.util.TreeSet;
import java.util.function.Function;
import java.util.function.Supplier;

/**
 * Terms: "A call that throws something else, or answers -1 or false, changes nothing."
 *
 * Each call with each edge of its arguments is made in each of some states. Where it is refused, the object
 * is held against a twin that was not called: by what is seen of both, and by what both do from there on.
 */
public final class RefusalTest {
    private static final int[] NUMBERS = {Integer.MIN_VALUE, -1, 0, 1, 4, 5, 6, 11, 12, 13, 90, 191, 192, 999, 1000,
        Integer.MAX_VALUE};
    private static final int[] FRAMES = {Integer.MIN_VALUE, -1, 0, 6, 11, 12, Integer.MAX_VALUE};
    private static final int[] BYTES = {Integer.MIN_VALUE, -1, 0, 5, 6, 509, 510, 511, 512, Integer.MAX_VALUE};
    private static final int[] PLACES = {Integer.MIN_VALUE, -1, 0, 39, 40, 41, 49, 50};

    private static final Map<String, Supplier<BufferDesk>> STATES = new LinkedHashMap<>();
    private static final Map<String, Function<BufferDesk, Object>> CALLS = new LinkedHashMap<>();
    private static final List<Function<BufferDesk, String>> PROBES = new ArrayList<>();
    private static final TreeSet<String> MET = new TreeSet<>();

    public static void main(String[] args) {
        makeStates();
        makeCalls();
        makeProbes();
        for (String state : STATES.keySet()) {
            Sentence.holds("A call that throws something else, or answers -1 or false, changes nothing.",
                    () -> tryAllCalls(state));
        }
        Sentence.holds("each refusal that the document names was met", RefusalTest::allRefusalsWereMet);
        Check.end();
    }

    private static void makeStates() {
        STATES.put("a new object", BufferDesk::new);
        STATES.put("one dirty frame, a charge", () -> {
            BufferDesk desk = new BufferDesk();
            desk.flushed(50);
            desk.pin(5);
            desk.set(0, 100, 1, 40);
            desk.charge(5);
            return desk;
        });
        STATES.put("all pinned, two dirty, a torn page, hand at 9", () -> tornAndFull(9, false, 11));
        STATES.put("none pinned, two dirty, a torn page, hand at 5", () -> tornAndFull(5, true, 3));
        STATES.put("none pinned, two dirty, a torn page, no sector left", () -> tornAndFull(3, true, 0));
        STATES.put("behind a cut", () -> {
            BufferDesk desk = Desks.fullWithHandAt(4);
            desk.set(6, 100, 7, 40);
            Desks.tear(desk, 2, 12);
            return desk;
        });
    }

    /** Page 90 is torn, frames 0 and 6 are dirty. */
    private static BufferDesk tornAndFull(int hand, boolean free, int charge) {
        BufferDesk desk = new BufferDesk();
        Desks.tear(desk, 90, 3);
        desk.flushed(20);
        for (int page = 0; page < 12; page++) {
            desk.pin(page);
        }
        desk.unpin(hand - 1);
        desk.pin(20);
        desk.set(0, 100, 1, 40);
        desk.set(6, 100, 2, 50);
        for (int frame = 0; frame < 12 && free; frame++) {
            desk.unpin(frame);
        }
        desk.charge(charge);
        return desk;
    }

    private static void makeCalls() {
        CALLS.put("sweep()", desk -> desk.sweep());
        for (int place : PLACES) {
            CALLS.put("flushed(" + place + ")", desk -> desk.flushed(place));
        }
        for (int n : NUMBERS) {
            makeCallsWith(n);
        }
        for (int frame : FRAMES) {
            for (int i : BYTES) {
                CALLS.put("get(" + frame + ", " + i + ")", desk -> desk.get(frame, i));
                for (int place : PLACES) {
                    CALLS.put("set(" + frame + ", " + i + ", 9, " + place + ")", desk -> desk.set(frame, i, 9, place));
                }
            }
        }
    }

    private static void makeCallsWith(int n) {
        CALLS.put("pin(" + n + ")", desk -> desk.pin(n));
        CALLS.put("remake(" + n + ")", desk -> desk.remake(n));
        CALLS.put("unpin(" + n + ")", desk -> desk.unpin(n));
        CALLS.put("clean(" + n + ")", desk -> desk.clean(n));
        CALLS.put("charge(" + n + ")", desk -> {
            desk.charge(n);
            return "done";
        });
        CALLS.put("torn(" + n + ")", desk -> desk.torn(n));
        CALLS.put("count(" + n + ")", desk -> desk.count(n));
        for (int i : BYTES) {
            CALLS.put("disk(" + n + ", " + i + ")", desk -> desk.disk(n, i));
        }
        for (int frame : FRAMES) {
            CALLS.put("look(" + frame + ", " + n + ")", desk -> desk.look(frame, n));
        }
    }

    private static void makeProbes() {
        PROBES.add(Desks::view);
        PROBES.add(RefusalTest::bytesOfFrames);
        PROBES.add(RefusalTest::pagesOnDisk);
        PROBES.add(desk -> answer(BufferDesk::sweep, desk) + answer(BufferDesk::sweep, desk) + Desks.view(desk));
        PROBES.add(RefusalTest::goingOn);
    }

    private static String bytesOfFrames(BufferDesk desk) {
        int[] bytes = {0, 1, 2, 5, 6, 509, 510, 511};
        StringBuilder text = new StringBuilder();
        for (int frame = 0; frame < 12; frame++) {
            for (int i : bytes) {
                text.append(' ').append(desk.get(frame, i));
            }
        }
        return text.toString();
    }

    private static String pagesOnDisk(BufferDesk desk) {
        int[] bytes = {0, 1, 2, 5, 6, 100, 510, 511};
        int[] pages = {0, 1, 2, 5, 6, 11, 12, 20, 90, 191};
        StringBuilder text = new StringBuilder();
        for (int page : pages) {
            text.append(' ').append(desk.torn(page));
            for (int i : bytes) {
                text.append(' ').append(desk.disk(page, i));
            }
        }
        return text.toString();
    }

    /** The charge is not seen but by writing, the order of the hand not but by finding. */
    private static String goingOn(BufferDesk desk) {
        StringBuilder text = new StringBuilder();
        for (int page = 30; page < 40; page++) {
            int next = page;
            text.append(answer(x -> x.unpin(next % 12), desk));
            text.append(answer(x -> x.pin(next), desk));
            text.append(answer(x -> x.set(next % 12, 100, next, 60), desk));
            text.append(answer(x -> x.clean(1), desk));
            text.append(answer(x -> x.count(2), desk));
        }
        return text.append(Desks.view(desk)).toString();
    }

    private static String answer(Function<BufferDesk, Object> call, BufferDesk desk) {
        try {
            return call.apply(desk) + " ";
        } catch (IllegalArgumentException | IllegalStateException | NoSuchElementException
                | UnsupportedOperationException e) {
            return e.getClass().getSimpleName() + " ";
        }
    }

    private static void tryAllCalls(String state) {
        List<String> untouched = new ArrayList<>();
        for (Function<BufferDesk, String> probe : PROBES) {
            untouched.add(probe.apply(STATES.get(state).get()));
        }
        for (String name : CALLS.keySet()) {
            if (changesNothing(state, name)) {
                for (int k = 0; k < PROBES.size(); k++) {
                    BufferDesk desk = STATES.get(state).get();
                    answer(CALLS.get(name), desk);
                    Check.same(state + ": what comes behind " + name, PROBES.get(k).apply(desk), untouched.get(k));
                }
            }
        }
    }

    /** Refused, or one of the calls that only look. */
    private static boolean changesNothing(String state, String name) {
        String answer = answer(CALLS.get(name), STATES.get(state).get()).trim();
        String method = name.substring(0, name.indexOf('('));
        boolean refused = answer.equals("-1") || answer.equals("false")
                || answer.endsWith("Exception") && !answer.equals("UnsupportedOperationException");
        if (refused) {
            MET.add(method + " " + answer);
        }
        return refused || "get look disk torn count".contains(method);
    }

    private static void allRefusalsWereMet() {
        String due = "charge IllegalArgumentException, clean IllegalArgumentException, count -1, disk -1,"
                + " flushed false, get -1, look -1, pin IllegalArgumentException, pin IllegalStateException,"
                + " pin NoSuchElementException, remake IllegalArgumentException, remake IllegalStateException,"
                + " set false, torn false, unpin false";
        Check.same("the refusals met", String.join(", ", MET), due);
    }
}
