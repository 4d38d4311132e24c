/** Counts and prints the answers that are not the ones due. */
final class Check {
    interface Call {
        void run();
    }

    private static int wrong = 0;

    private Check() {}

    static void same(String what, long got, long want) {
        if (got != want) {
            fault(what + " answered " + got + ", due is " + want);
        }
    }

    static void same(String what, String got, String want) {
        if (!got.equals(want)) {
            fault(what + " is\n" + got + "\ndue is\n" + want);
        }
    }

    static void yes(String what, boolean got) {
        if (!got) {
            fault(what + " answered false, due is true");
        }
    }

    static void no(String what, boolean got) {
        if (got) {
            fault(what + " answered true, due is false");
        }
    }

    static void refused(String what, Class<? extends RuntimeException> due, Call call) {
        Class<?> got = null;
        try {
            call.run();
        } catch (RuntimeException e) {
            got = e.getClass();
        }
        if (got != due) {
            fault(what + " throws " + (got == null ? "nothing" : got.getName()) + ", due is " + due.getName());
        }
    }

    /** The call is refused, and all that can be seen of the object stays as it was. */
    static void refusedUnchanged(BufferDesk desk, String what, Class<? extends RuntimeException> due, Call call) {
        String before = Desks.view(desk);
        refused(what, due, call);
        same("what is seen behind " + what, Desks.view(desk), before);
    }

    static void powerGoes(String what, Call call) {
        refused(what, UnsupportedOperationException.class, call);
    }

    static int faults() {
        return wrong;
    }

    static void fault(String text) {
        wrong++;
        System.out.println(text);
    }

    static void end() {
        System.out.println(wrong == 0 ? "all answers are as due" : wrong + " answers are not as due");
        if (wrong != 0) {
            System.exit(1);
        }
    }
}
