/** Faults 1 and 2, and what a fault leaves as it was, for every operation: a method for each case. */
final class FaultsTest {
    private static final int D = Bench.BEHIND;

    public static void main(String[] args) {
        Cases.runAll(FaultsTest.class);
    }

    private static DrumMachine ready() {
        DrumMachine x = Bench.holding(3, 4, true, 5, true);
        x.card(1, false);
        x.card(2, false);
        return x;
    }

    /** The instruction at HERE faults so, after so much time, and all else is as it was. */
    private static void faults(DrumMachine x, int fault, int time) {
        x.start(Bench.HERE);
        String before = Bench.withoutTime(x);
        Due.same("time", Bench.stepThatStands(x), time);
        Bench.faulted(x, fault);
        Due.same("all is as it was", Bench.withoutTime(x), before);
        Due.same("the cards are too", x.card(3, false), 3);
    }

    private static void put(DrumMachine x, int operation, int data) {
        x.word(Bench.HERE, Bench.instruction(operation, data, Bench.THEN), false);
    }

    static void instructionThatIsNotValid() {
        for (int digit = 0; digit < 10; digit++) {
            DrumMachine x = ready();
            put(x, 69, D);
            x.flip(Bench.HERE, digit, 3);
            faults(x, 1, 1);
        }
    }

    static void instructionThatIsNotValidWhateverItsOperation() {
        for (int operation = 0; operation < 100; operation++) {
            DrumMachine x = ready();
            put(x, operation, D);
            x.flip(Bench.HERE, 0, 0);
            faults(x, 1, 1);
        }
    }

    static void instructionThatIsPutRight() {
        DrumMachine x = ready();
        put(x, 69, D);
        x.flip(Bench.HERE, 4, 2);
        faults(x, 1, 1);
        x.flip(Bench.HERE, 4, 2);
        Bench.stepThatStands(x);
        Bench.goesOn(x);
    }

    static void wordThatIsReadAndNotValid() {
        for (int operation : Bench.READING) {
            DrumMachine x = ready();
            x.word(D, 6, false);
            x.flip(D, 9, 4);
            put(x, operation, D);
            faults(x, 1, 2);
        }
    }

    static void wordThatIsReadAndNotValidAfterWaiting() {
        for (int operation : Bench.READING) {
            DrumMachine x = ready();
            x.flip(60, 0, 0);
            put(x, operation, 60);
            faults(x, 1, 51);
        }
    }

    static void wordThatIsWrittenMayBeNotValid() {
        for (int operation : Bench.WRITING) {
            DrumMachine x = ready();
            x.flip(D, 9, 4);
            Bench.step(x, operation, D);
            Bench.goesOn(x);
            Due.same("the word is valid then", x.get(D) != Bench.NOT_VALID, true);
        }
    }

    static void wordThatIsNotNeededMayBeNotValid() {
        for (int operation : Bench.WITHOUT_ACCESS) {
            DrumMachine x = ready();
            x.flip(D, 9, 4);
            Bench.step(x, operation, D);
            Due.same("operation " + operation, x.fault(), operation == 1 ? 0 : -1);
        }
    }

    static void operationsThatAreNone() {
        for (int operation = 0; operation < 100; operation++) {
            DrumMachine x = ready();
            x.word(D, 5, false);
            if (Bench.hasOperation(operation)) {
                Bench.step(x, operation, D);
                Due.same("operation " + operation, x.fault(), operation == 1 ? 0 : -1);
            } else {
                put(x, operation, D);
                faults(x, 2, 1);
            }
        }
    }

    static void operationThatIsNoneWithNoAddress() {
        DrumMachine x = ready();
        put(x, 88, 9999);
        faults(x, 2, 1);
    }

    static void dataJustBehindTheDrum() {
        for (int operation = 0; operation < 100; operation++) {
            if (accesses(operation)) {
                DrumMachine x = ready();
                put(x, operation, 200);
                faults(x, 2, 1);
            }
        }
    }

    static void dataFarBehindTheDrum() {
        for (int operation = 0; operation < 100; operation++) {
            if (accesses(operation)) {
                DrumMachine x = ready();
                put(x, operation, 9999);
                faults(x, 2, 1);
            }
        }
    }

    static void dataAtTheLastAddress() {
        for (int operation = 0; operation < 100; operation++) {
            if (accesses(operation)) {
                DrumMachine x = ready();
                x.word(199, 5, false);
                Bench.step(x, operation, 199);
                Bench.goesOn(x);
            }
        }
    }

    static void dataThatIsNotNeeded() {
        for (int operation : Bench.WITHOUT_ACCESS) {
            DrumMachine x = Bench.holdingNothing();
            Bench.step(x, operation, 9990);
            Due.same("operation " + operation, x.fault(), operation == 1 ? 0 : -1);
            Due.same("its next", x.next(), Bench.THEN);
        }
    }

    static void instructionThatIsNotValidAfterSteps() {
        DrumMachine x = new DrumMachine();
        x.word(0, 1, false);
        x.word(1, 2, false);
        x.flip(2, 0, 0);
        x.start(0);
        Due.same("run(9)", x.run(9), 2);
        Due.same("fault", x.fault(), 1);
        Due.same("next", x.next(), 2);
        Due.same("time", x.time(), 3);
    }

    static void faultKeepsOverflowOn() {
        DrumMachine x = Bench.overflowing(1, 2);
        Bench.step(x, 69, 200);
        Bench.faulted(x, 2);
        Bench.overflows(x, true);
    }

    static void faultAfterFault() {
        DrumMachine x = ready();
        put(x, 69, 200);
        faults(x, 2, 1);
        x.flip(Bench.HERE, 0, 0);
        Due.same("time", Bench.stepThatStands(x), 1);
        Bench.faulted(x, 1);
        x.start(9999);
        x.run(1);
        Due.same("fault", x.fault(), 2);
        Due.same("next", x.next(), 9999);
    }

    private static boolean accesses(int operation) {
        for (int one : Bench.WITHOUT_ACCESS) {
            if (one == operation) {
                return false;
            }
        }
        return Bench.hasOperation(operation);
    }
}
