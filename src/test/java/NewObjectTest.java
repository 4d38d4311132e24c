/** Promise 1: a new object. */
public final class NewObjectTest {
    private static final int[] BYTES = {0, 1, 2, 5, 6, 63, 64, 255, 448, 509, 510, 511};

    public static void main(String[] args) {
        allIsEmpty();
        diskIsZero();
        noChargeAtFirst();
        objectsAreApart();
        Check.end();
    }

    private static void allIsEmpty() {
        BufferDesk desk = new BufferDesk();
        for (int what = 0; what <= 5; what++) {
            Check.same("count(" + what + ")", desk.count(what), 0);
        }
        for (int frame = 0; frame < 12; frame++) {
            for (int what = 0; what <= 4; what++) {
                Check.same("look(" + frame + ", " + what + ")", desk.look(frame, what), -1);
            }
            Check.same("get(" + frame + ", 0)", desk.get(frame, 0), -1);
            Check.no("unpin(" + frame + ")", desk.unpin(frame));
            Check.no("set(" + frame + ", 6, 1, 1)", desk.set(frame, 6, 1, 1));
        }
        Check.same("sweep()", desk.sweep(), 0);
        Check.same("clean(12)", desk.clean(12), 0);
    }

    private static void diskIsZero() {
        BufferDesk desk = new BufferDesk();
        for (int page = 0; page < 192; page += 191) {
            for (int i : BYTES) {
                Check.same("disk(" + page + ", " + i + ")", desk.disk(page, i), 0);
            }
        }
        for (int page = 0; page < 192; page++) {
            Check.no("torn(" + page + ")", desk.torn(page));
        }
        Check.same("pin(191)", desk.pin(191), 0);
        for (int i : BYTES) {
            Check.same("get(0, " + i + ")", desk.get(0, i), 0);
        }
    }

    private static void noChargeAtFirst() {
        BufferDesk desk = Desks.full();
        for (int round = 1; round <= 11; round++) {
            for (int frame = 0; frame < 12; frame++) {
                desk.set(frame, 6, round, 0);
            }
            Check.same("sweep() in round " + round, desk.sweep(), 12);
        }
        Check.same("count(2)", desk.count(2), 1056);
    }

    private static void objectsAreApart() {
        BufferDesk one = new BufferDesk();
        BufferDesk two = new BufferDesk();
        one.pin(7);
        one.set(0, 6, 9, 3);
        one.sweep();
        one.charge(0);
        Check.same("count(5) of the other", two.count(5), 0);
        Check.same("count(3) of the other", two.count(3), 0);
        Check.same("disk(7, 6) of the other", two.disk(7, 6), 0);
        two.pin(7);
        two.set(0, 6, 1, 0);
        Check.same("sweep() of the other", two.sweep(), 1);
    }
}
