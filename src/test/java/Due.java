/** What the tests have in common: answers are compared with what is due, and every wrong one is printed. */
final class Due {
    private static int wrong = 0;
    private static int looked = 0;

    private Due() {
    }

    static void same(String what, long got, long want) {
        looked++;
        if (got != want) {
            wrong++;
            System.out.println(what + " answered " + got + ", due is " + want);
        }
    }

    static void same(String what, boolean got, boolean want) {
        looked++;
        if (got != want) {
            wrong++;
            System.out.println(what + " answered " + got + ", due is " + want);
        }
    }

    static void same(String what, String got, String want) {
        looked++;
        if (!got.equals(want)) {
            wrong++;
            System.out.println(what + " answered " + got + ", due is " + want);
        }
    }

    /** The call must throw just this class, not one below it. */
    static void refused(String what, Class<? extends RuntimeException> want, Runnable call) {
        same(what, thrownBy(call), want.getSimpleName());
    }

    static void taken(String what, Runnable call) {
        same(what, thrownBy(call), "nothing");
    }

    private static String thrownBy(Runnable call) {
        try {
            call.run();
            return "nothing";
        } catch (RuntimeException e) {
            return e.getClass().getSimpleName();
        }
    }

    static int wrongSoFar() {
        return wrong;
    }

    static void end() {
        System.out.println(looked + " answers looked at, " + wrong + " not as due");
        if (wrong != 0) {
            System.exit(1);
        }
    }
}
