import java.io.IOException;
import java.nio.file.Files;
import java.nio.file.Path;
import java.util.NoSuchElementException;

/** The example of README.md answers as it says there. To be run from the project's folder. */
public final class ReadmeTest {
    private static final String FIRST = "BufferDesk desk = new BufferDesk();";
    private static final String LAST = "boolean tornAtEnd = desk.torn(3);       // false";

    public static void main(String[] args) throws IOException {
        sameWords();
        sameAnswers();
        refusalBehindTheCut();
        Check.end();
    }

    /** So that a change of the example in README.md alone is seen. */
    private static void sameWords() throws IOException {
        String here = example("src/test/java/ReadmeTest.java", "        ");
        Check.same("the example in README.md", example("README.md", ""), here);
    }

    private static String example(String file, String indent) throws IOException {
        StringBuilder text = new StringBuilder();
        boolean inside = false;
        for (String line : Files.readAllLines(Path.of(file))) {
            inside = inside || line.equals(indent + FIRST);
            if (inside) {
                text.append(line.startsWith(indent) ? line.substring(indent.length()) : line).append('\n');
            }
            if (inside && line.equals(indent + LAST)) {
                return text.toString();
            }
        }
        Check.fault(file + " has no example from its first line to its last");
        return text.toString();
    }

    private static void sameAnswers() {
        BufferDesk desk = new BufferDesk();
        int frame = desk.pin(3);                // page 3 is in this frame, with one pin
        desk.set(frame, 6, 200, 5);             // byte 6 becomes 200; the page's place in the log is 5
        desk.unpin(frame);                      // the frame may be used for another page
        int written = desk.sweep();             // 1: every dirty page goes to the disk, the log before it
        int onDisk = desk.disk(3, 6);           // 200
        int logEnd = desk.count(3);             // 5

        frame = desk.pin(3);
        desk.set(frame, 6, 201, 6);
        desk.charge(5);                         // the power goes at the sixth sector from now on
        boolean powerWent = false;
        try {
            desk.sweep();
        } catch (UnsupportedOperationException e) {
            powerWent = true;                   // all frames are empty now, and there is no charge any more
        }
        boolean tornByCut = desk.torn(3);       // true: pin(3) is refused with NoSuchElementException,
        frame = desk.remake(3);                 // but the page can be made anew, its bytes 0
        desk.set(frame, 6, 202, 7);
        desk.sweep();
        boolean tornAtEnd = desk.torn(3);       // false

        Check.same("written", written, 1);
        Check.same("onDisk", onDisk, 200);
        Check.same("logEnd", logEnd, 5);
        Check.yes("powerWent", powerWent);
        Check.yes("tornByCut", tornByCut);
        Check.no("tornAtEnd", tornAtEnd);
    }

    private static void refusalBehindTheCut() {
        BufferDesk desk = new BufferDesk();
        Desks.tear(desk, 3, 5);
        Check.same("frames that are not empty behind the cut", desk.count(5), 0);
        Check.refused("pin(3) behind the cut", NoSuchElementException.class, () -> desk.pin(3));
        Check.same("byte 6 of the remade page", desk.get(desk.remake(3), 6), 0);
    }
}
