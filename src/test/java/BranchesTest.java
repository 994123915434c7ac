/** NOTHING, STOP and the branches: a method for each case. */
final class BranchesTest {
    private static final long MOST = Bench.MOST;

    public static void main(String[] args) {
        Cases.runAll(BranchesTest.class);
    }

    private static void branch(DrumMachine x, int operation, boolean taken) {
        Due.same("time of " + operation, Bench.step(x, operation, 155), 1);
        Due.same("NEXT after " + operation, x.next(), taken ? 155 : Bench.THEN);
        Due.same("fault after " + operation, x.fault(), -1);
    }

    private static DrumMachine withUpper() {
        return Bench.holding(1, 0, false, 0, false);
    }

    private static DrumMachine withLower() {
        return Bench.holding(0, 1, false, 0, false);
    }

    private static DrumMachine withMinusZero() {
        DrumMachine x = Bench.holding(0, 1, true, 0, false);
        Bench.step(x, 30, 1);
        Bench.holds(x, 0, 0, true);
        return x;
    }

    static void nothing() {
        DrumMachine x = Bench.overflowing(1, 2);
        Due.same("time", Bench.step(x, 0, 155), 1);
        Bench.goesOn(x);
        Bench.holds(x, 1, 2, false);
        Bench.overflows(x, true);
    }

    static void stop() {
        DrumMachine x = Bench.overflowing(1, 2);
        Due.same("time", Bench.step(x, 1, 155), 1);
        Due.same("fault", x.fault(), 0);
        Due.same("NEXT", x.next(), Bench.THEN);
        Bench.holds(x, 1, 2, false);
        Bench.overflows(x, true);
    }

    static void upperWithAnUpper() {
        branch(withUpper(), 44, true);
    }

    static void upperWithALowerAlone() {
        branch(withLower(), 44, false);
        branch(Bench.holding(0, MOST, true, 8888888888L, true), 44, false);
    }

    static void upperWithNothing() {
        branch(Bench.holdingNothing(), 44, false);
        branch(withMinusZero(), 44, false);
    }

    static void accumulatorWithAnUpper() {
        branch(withUpper(), 45, true);
    }

    static void accumulatorWithALower() {
        branch(withLower(), 45, true);
    }

    static void accumulatorWithNothing() {
        branch(Bench.holding(0, 0, false, 5, true), 45, false);
    }

    static void accumulatorWithMinusZero() {
        branch(withMinusZero(), 45, false);
    }

    static void minusWithPlus() {
        branch(Bench.holding(0, 1, false, 5, true), 46, false);
        branch(Bench.holding(0, 0, false, 5, true), 46, false);
    }

    static void minusWithMinus() {
        branch(Bench.holding(0, 1, true, 5, false), 46, true);
    }

    static void minusWithMinusZero() {
        branch(withMinusZero(), 46, true);
    }

    static void overflowOff() {
        branch(Bench.holding(1, 1, true, 8, true), 47, false);
    }

    static void overflowOnIsOffThen() {
        DrumMachine x = Bench.overflowing(1, 2);
        Bench.overflows(x, true);
        branch(x, 47, true);
        Bench.overflows(x, false);
        branch(x, 47, false);
        Bench.holds(x, 1, 2, false);
    }

    static void overflowByADivisionThatStopped() {
        DrumMachine x = withUpper();
        Bench.step(x, 14, Bench.BEHIND);
        Bench.faulted(x, 3);
        branch(x, 47, true);
        Bench.overflows(x, false);
    }

    static void otherBranchesLeaveOverflow() {
        DrumMachine x = Bench.overflowing(1, 2);
        int[] operations = {44, 45, 46, 90, 99};
        for (int operation : operations) {
            Bench.step(x, operation, 155);
            Bench.overflows(x, true);
        }
    }

    static void digitsOfEight() {
        long unit = 1;
        for (int digit = 0; digit < 10; digit++) {
            branch(Bench.holding(0, 0, false, 8 * unit, false), 90 + digit, true);
            branch(Bench.holding(0, 0, false, 8 * unit, true), 90 + digit, true);
            unit *= 10;
        }
    }

    static void digitsJustBesideEight() {
        long unit = 1;
        for (int digit = 0; digit < 10; digit++) {
            branch(Bench.holding(8888888888L, 8888888888L, false, 7 * unit, false), 90 + digit, false);
            branch(Bench.holding(8888888888L, 8888888888L, true, 9 * unit, false), 90 + digit, false);
            unit *= 10;
        }
    }

    static void everyOtherDigitIsEight() {
        long unit = 1;
        for (int digit = 0; digit < 10; digit++) {
            branch(Bench.holding(0, 0, false, 8888888888L - 8 * unit, false), 90 + digit, false);
            unit *= 10;
        }
    }

    static void branchesLeaveTheRegisters() {
        for (int operation : Bench.WITHOUT_ACCESS) {
            if (operation != 30 && operation != 31 && operation != 35) {
                DrumMachine x = Bench.holding(1, 2, true, 8888888888L, true);
                Bench.step(x, operation, 155);
                Bench.holds(x, 1, 2, true);
                Bench.distributes(x, 8888888888L, true);
            }
        }
    }

    static void branchToTheLastAddress() {
        DrumMachine x = withUpper();
        Bench.step(x, 44, 199);
        Due.same("next", x.next(), 199);
        Due.same("it can be done", x.run(1), 1);
    }

    static void branchToNoAddress() {
        int[] addresses = {200, 9999};
        for (int address : addresses) {
            DrumMachine x = withUpper();
            Bench.step(x, 44, address);
            Due.same("the branch itself is no fault", x.fault(), -1);
            Due.same("next", x.next(), address);
            long time = x.time();
            Due.same("but the step behind it", x.run(1), 0);
            Due.same("fault", x.fault(), 2);
            Due.same("next then", x.next(), address);
            Due.same("time", x.time(), time);
        }
    }

    static void branchToNoAddressThatIsNotTaken() {
        DrumMachine x = Bench.holdingNothing();
        Bench.step(x, 44, 9999);
        Bench.goesOn(x);
    }

    static void branchToItself() {
        DrumMachine x = withUpper();
        x.word(Bench.HERE, Bench.instruction(44, Bench.HERE, Bench.THEN), false);
        x.start(Bench.HERE);
        Due.same("run(300)", x.run(300), 300);
        Due.same("next", x.next(), Bench.HERE);
    }
}
