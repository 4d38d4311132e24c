/** Promise 9: charge, and the cut of power. */
public final class ChargeTest {
    public static void main(String[] args) {
        for (int sectors = 0; sectors <= 8; sectors++) {
            cutBehind(sectors);
        }
        lastsOverSeveralCalls();
        isSetAnew();
        allFramesAreEmptyBehindTheCut();
        isGoneBehindTheCut();
        mostCharge();
        refusals();
        Check.end();
    }

    /** In each sector the page on the disk has 1 from before, the frame 2. */
    private static void cutBehind(int sectors) {
        BufferDesk desk = new BufferDesk();
        desk.pin(8);
        for (int sector = 0; sector < 8; sector++) {
            desk.set(0, sector * 64 + 20, 1, 3);
        }
        desk.sweep();
        for (int sector = 0; sector < 8; sector++) {
            desk.set(0, sector * 64 + 20, 2, 4);
        }
        desk.charge(sectors);
        String when = ", charge " + sectors;
        if (sectors < 8) {
            Check.powerGoes("sweep()" + when, desk::sweep);
        } else {
            Check.same("sweep()" + when, desk.sweep(), 1);
        }
        for (int sector = 0; sector < 8; sector++) {
            Check.same("byte of sector " + sector + when, desk.disk(8, sector * 64 + 20), sector < sectors ? 2 : 1);
        }
        Check.same("disk(8, 1)" + when, desk.disk(8, 1), sectors > 0 ? 2 : 1);
        Check.same("disk(8, 5)" + when, desk.disk(8, 5), sectors > 0 ? 4 : 3);
        Check.same("disk(8, 511)" + when, desk.disk(8, 511), sectors > 7 ? 2 : 1);
        Check.same("torn(8)" + when, desk.torn(8) ? 1 : 0, sectors > 0 && sectors < 8 ? 1 : 0);
        Check.same("count(2)" + when, desk.count(2), 8 + sectors);
        Check.same("count(3)" + when, desk.count(3), 4);
        Check.same("count(4)" + when, desk.count(4), 2);
        Check.same("count(5)" + when, desk.count(5), sectors < 8 ? 0 : 1);
        Check.same("look(0, 0)" + when, desk.look(0, 0), sectors < 8 ? -1 : 8);
    }

    private static void lastsOverSeveralCalls() {
        BufferDesk desk = Desks.fullAndDirty();
        desk.charge(18);
        Check.same("clean(1)", desk.clean(1), 1);
        Check.same("pin(50)", desk.pin(50), 0);
        Check.same("pin(51)", desk.pin(51), 1);
        Check.powerGoes("clean(1)", () -> desk.clean(1));
        Check.same("count(2)", desk.count(2), 18);
        Check.same("count(0)", desk.count(0), 0);
        Check.no("torn(1)", desk.torn(1));
        Check.yes("torn(2)", desk.torn(2));
    }

    private static void isSetAnew() {
        BufferDesk desk = Desks.fullAndDirty();
        desk.charge(9);
        desk.clean(1);
        desk.charge(16);
        Check.same("clean(2)", desk.clean(2), 2);
        desk.charge(0);
        Check.powerGoes("clean(1)", () -> desk.clean(1));
        Check.no("torn(3)", desk.torn(3));
        Check.same("count(2)", desk.count(2), 24);
    }

    private static void allFramesAreEmptyBehindTheCut() {
        BufferDesk desk = Desks.fullAndDirty();
        desk.pin(2);
        desk.charge(0);
        Check.powerGoes("clean(12)", () -> desk.clean(12));
        for (int frame = 0; frame < 12; frame++) {
            Check.same("look(" + frame + ", 0)", desk.look(frame, 0), -1);
            Check.same("get(" + frame + ", 100)", desk.get(frame, 100), -1);
            Check.no("unpin(" + frame + ")", desk.unpin(frame));
            Check.no("set(" + frame + ", 100, 1, 0)", desk.set(frame, 100, 1, 0));
        }
        Check.same("clean(12)", desk.clean(12), 0);
        Check.same("sweep()", desk.sweep(), 0);
        Check.same("count(2)", desk.count(2), 0);
    }

    private static void isGoneBehindTheCut() {
        BufferDesk desk = Desks.fullAndDirty();
        desk.charge(0);
        Check.powerGoes("sweep()", desk::sweep);
        for (int page = 0; page < 12; page++) {
            Check.same("pin(" + page + ")", desk.pin(page), page);
            Check.same("look(" + page + ", 1)", desk.look(page, 1), 1);
            Check.same("look(" + page + ", 2)", desk.look(page, 2), 1);
            Check.same("look(" + page + ", 3)", desk.look(page, 3), 0);
            Check.same("get(" + page + ", 100)", desk.get(page, 100), 0);
            desk.set(page, 100, 5, 0);
        }
        Check.same("sweep()", desk.sweep(), 12);
        Check.same("count(1)", desk.count(1), 24);
    }

    private static void mostCharge() {
        BufferDesk desk = Desks.full();
        desk.charge(999);
        for (int round = 1; round <= 10; round++) {
            for (int frame = 0; frame < 12; frame++) {
                desk.set(frame, 6, round, 0);
            }
            Check.same("sweep() in round " + round, desk.sweep(), 12);
        }
        for (int frame = 0; frame < 12; frame++) {
            desk.set(frame, 6, 11, 0);
        }
        Check.powerGoes("sweep()", desk::sweep);
        Check.same("count(2)", desk.count(2), 999);
    }

    private static void refusals() {
        BufferDesk desk = Desks.fullAndDirty();
        desk.charge(10);
        int[] wrong = {-1, 1000, Integer.MIN_VALUE, Integer.MAX_VALUE};
        for (int n : wrong) {
            Check.refused("charge(" + n + ")", IllegalArgumentException.class, () -> desk.charge(n));
        }
        Check.powerGoes("sweep()", desk::sweep);
        Check.same("count(2)", desk.count(2), 10);
        BufferDesk free = Desks.fullAndDirty();
        Check.refused("charge(-1)", IllegalArgumentException.class, () -> free.charge(-1));
        Check.same("sweep() with no charge", free.sweep(), 12);
    }
}
