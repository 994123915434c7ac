/** What the tests have in common: answers are compared with what is due, and every wrong one is printed. */
final class Due {
    private static int wrong = 0;
    private static int looked = 0;
    private static String prefix = "";

    private Due() {
    }

    /** What follows belongs to this case: a wrong answer is printed with its name. */
    static void begin(String caseName) {
        prefix = caseName + ": ";
    }

    static void same(String what, long got, long want) {
        looked++;
        if (got != want) {
            tell(what, String.valueOf(got), String.valueOf(want));
        }
    }

    static void same(String what, boolean got, boolean want) {
        looked++;
        if (got != want) {
            tell(what, String.valueOf(got), String.valueOf(want));
        }
    }

    static void same(String what, String got, String want) {
        looked++;
        if (!got.equals(want)) {
            tell(what, got, want);
        }
    }

    private static void tell(String what, String got, String want) {
        wrong++;
        System.out.println(prefix + what + " answered " + got + ", due is " + want);
    }

    /** The call must throw just this class, not one below it. */
    static void refused(String what, Class<? extends RuntimeException> want, Runnable call) {
        same(what, thrownBy(call), want.getSimpleName());
    }

    /** The call must throw just this class, and nothing that the object can be asked may have changed. */
    static void refusedWithoutTrace(String what, DrumMachine x, Class<? extends RuntimeException> want,
            Runnable call) {
        String before = Bench.stateOf(x);
        refused(what, want, call);
        same(what + ", the state behind it", Bench.stateOf(x), before);
    }

    static void taken(String what, Runnable call) {
        same(what, thrownBy(call), "nothing");
    }

    private static String thrownBy(Runnable call) {
        try {
            call.run();
            return "nothing";
        } catch (RuntimeException e) {
            return e.getClass().getSimpleName();
        }
    }

    static int wrongSoFar() {
        return wrong;
    }

    static int lookedSoFar() {
        return looked;
    }

    static void end() {
        System.out.println(looked + " answers looked at, " + wrong + " not as due");
        if (wrong != 0) {
            System.exit(1);
        }
    }
}
