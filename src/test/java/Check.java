/** What the tests share: comparing answers, and what a refused, a looking or an undoable call does. */
final class Check {
    interface Call {
        long answer();
    }

    private static int checks = 0;
    private static int wrong = 0;
    private static String about = "";

    private Check() {
    }

    private static void tell(String what) {
        wrong++;
        if (wrong <= 50) {
            System.out.println(about + what);
        }
    }

    /** What the checks from here on are about; it is told ahead of each wrong answer. */
    static void about(String what) {
        about = what + ": ";
    }

    static void same(String what, long got, long due) {
        checks++;
        if (got != due) {
            tell(what + " answered " + got + ", due is " + due);
        }
    }

    /** The exception's simple name, or null if the call throws nothing. */
    static String thrownBy(Call call) {
        try {
            call.answer();
            return null;
        } catch (RuntimeException e) {
            return e.getClass().getSimpleName();
        }
    }

    /** The call throws exactly this exception, and changes nothing. */
    static void refused(String what, StickPairs x, Class<?> due, Call call) {
        checks++;
        long before = x.digest();
        String got = thrownBy(call);
        if (!due.getSimpleName().equals(got)) {
            tell(what + " threw " + got + ", due is " + due.getSimpleName());
        }
        same(what + ": the state behind it", x.digest(), before);
    }

    static void noIndex(String what, StickPairs x, Call call) {
        refused(what, x, IndexOutOfBoundsException.class, call);
    }

    static void noArgument(String what, StickPairs x, Call call) {
        refused(what, x, IllegalArgumentException.class, call);
    }

    static void noState(String what, StickPairs x, Call call) {
        refused(what, x, IllegalStateException.class, call);
    }

    /** The call answers so and changes nothing. */
    static void look(String what, StickPairs x, Call call, long due) {
        long before = x.digest();
        same(what, call.answer(), due);
        same(what + ": the state behind it", x.digest(), before);
    }

    /**
     * The call answers so, saves one state, and undo restores that; then the call is made again. There must be
     * room for one more saved state, or the digest behind undo could not be the one before.
     */
    static void undoable(String what, StickPairs x, Call call, long due) {
        int states = x.count(11);
        same(what + ": room for a saved state", states < 6 ? 1 : 0, 1);
        long before = x.digest();
        same(what, call.answer(), due);
        long behind = x.digest();
        same(what + ": saved states", x.count(11), states + 1);
        same(what + ": undo", x.undo(), states);
        same(what + ": the state behind undo", x.digest(), before);
        same(what + " again", call.answer(), due);
        same(what + ": the state behind it again", x.digest(), behind);
    }

    static void end(String test) {
        System.out.println(test + ": " + checks + " checks, " + wrong + " wrong");
        if (wrong != 0) {
            System.exit(1);
        }
    }
}
