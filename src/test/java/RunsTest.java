/**
 * Promises 10 (start), 11 (run), 12 (fault), 13 (time), 14 (register), 15 (sign) and 16 (next), and the drum's turning:
 * a method for each case.
 */
final class RunsTest {
    private static final Class<IndexOutOfBoundsException> INDEX = IndexOutOfBoundsException.class;
    private static final Class<IllegalArgumentException> ARGUMENT = IllegalArgumentException.class;
    private static final Class<IllegalStateException> STATE = IllegalStateException.class;

    public static void main(String[] args) {
        Cases.runAll(RunsTest.class);
    }

    /** Steps 0, 1, 2 and STOP at 3, which has next address 77. */
    private static DrumMachine threeStepsAndStop() {
        DrumMachine x = new DrumMachine();
        x.word(0, 1, false);
        x.word(1, 2, false);
        x.word(2, 3, false);
        x.word(3, Bench.instruction(1, 0, 77), false);
        x.start(0);
        return x;
    }

    /** Steps 0, 1, 2 and at 3 an operation that is none. */
    private static DrumMachine threeStepsAndFault() {
        DrumMachine x = threeStepsAndStop();
        x.word(3, Bench.instruction(2, 0, 77), false);
        return x;
    }

    /** A machine that has come to this time by steps that do nothing. */
    private static DrumMachine atAngle(int angle) {
        DrumMachine x = new DrumMachine();
        int before = (angle + 49) % 50;
        x.start(before);
        x.run(1);
        Due.same("angle", x.time() % 50, angle);
        return x;
    }

    private static long timeOfOneFrom(DrumMachine x, int address) {
        long before = x.time();
        x.start(address);
        Due.same("steps", x.run(1), 1);
        return x.time() - before;
    }

    static void startAtTheFirst() {
        DrumMachine x = new DrumMachine();
        x.start(5);
        x.start(0);
        Due.same("next", x.next(), 0);
        Due.same("fault", x.fault(), -1);
        Due.same("a step", x.run(1), 1);
    }

    static void startAtTheLast() {
        DrumMachine x = new DrumMachine();
        x.start(9999);
        Due.same("next", x.next(), 9999);
        Due.same("fault", x.fault(), -1);
    }

    static void startBelowTheFirst() {
        DrumMachine x = new DrumMachine();
        Due.refusedWithoutTrace("start(-1)", x, ARGUMENT, () -> x.start(-1));
        Due.refusedWithoutTrace("start(least)", x, ARGUMENT, () -> x.start(Integer.MIN_VALUE));
    }

    static void startBehindTheLast() {
        DrumMachine x = new DrumMachine();
        Due.refusedWithoutTrace("start(10000)", x, ARGUMENT, () -> x.start(10000));
        Due.refusedWithoutTrace("start(most)", x, ARGUMENT, () -> x.start(Integer.MAX_VALUE));
    }

    static void startThatIsRefusedLeavesARunningMachine() {
        DrumMachine x = new DrumMachine();
        x.start(7);
        Due.refusedWithoutTrace("start(10000)", x, ARGUMENT, () -> x.start(10000));
        Due.same("next", x.next(), 7);
    }

    static void startAtTheLastAddressOfTheDrum() {
        DrumMachine x = new DrumMachine();
        x.word(199, 5, false);
        x.start(199);
        Due.same("a step", x.run(1), 1);
        Due.same("next", x.next(), 5);
    }

    static void startBehindTheDrum() {
        int[] addresses = {200, 201, 1000, 9999};
        for (int address : addresses) {
            DrumMachine x = new DrumMachine();
            x.start(address);
            Due.same("no step", x.run(1), 0);
            Due.same("fault", x.fault(), 2);
            Due.same("next", x.next(), address);
            Due.same("no time goes by", x.time(), 0);
        }
    }

    static void startOfARunningMachine() {
        DrumMachine x = threeStepsAndStop();
        x.run(1);
        x.start(3);
        Due.same("next", x.next(), 3);
        Due.same("fault", x.fault(), -1);
        Due.same("only STOP is done", x.run(9), 1);
    }

    static void startAfterStop() {
        DrumMachine x = threeStepsAndStop();
        x.run(9);
        x.start(1);
        Due.same("fault", x.fault(), -1);
        Due.same("three steps", x.run(9), 3);
    }

    static void startAfterAFault() {
        DrumMachine x = threeStepsAndFault();
        x.run(9);
        x.word(3, 0, false);
        x.start(3);
        Due.same("fault", x.fault(), -1);
        Due.same("a step", x.run(1), 1);
    }

    static void startLeavesAllElse() {
        DrumMachine x = Bench.overflowing(7, 8);
        long time = x.time();
        x.start(150);
        Due.same("time", x.time(), time);
        Bench.holds(x, 7, 8, false);
        Bench.distributes(x, 8, false);
        Bench.overflows(x, true);
    }

    static void runOfNoSteps() {
        DrumMachine x = threeStepsAndStop();
        String before = Bench.stateOf(x);
        Due.same("run(0)", x.run(0), 0);
        Due.same("all is as it was", Bench.stateOf(x), before);
    }

    static void runOfNoStepsBeforeAFault() {
        DrumMachine x = new DrumMachine();
        x.start(9999);
        Due.same("run(0)", x.run(0), 0);
        Due.same("fault", x.fault(), -1);
    }

    static void runOfTheMostSteps() {
        DrumMachine x = new DrumMachine();
        x.word(77, 77, false);
        x.start(77);
        Due.same("run(300)", x.run(300), 300);
        Due.same("it still runs", x.fault(), -1);
        Due.same("time", x.time(), 27 + 299 * 50 + 1);
    }

    static void runBelowNoSteps() {
        DrumMachine x = threeStepsAndStop();
        Due.refusedWithoutTrace("run(-1)", x, ARGUMENT, () -> x.run(-1));
        Due.refusedWithoutTrace("run(least)", x, ARGUMENT, () -> x.run(Integer.MIN_VALUE));
    }

    static void runAboveTheMostSteps() {
        DrumMachine x = threeStepsAndStop();
        Due.refusedWithoutTrace("run(301)", x, ARGUMENT, () -> x.run(301));
        Due.refusedWithoutTrace("run(most)", x, ARGUMENT, () -> x.run(Integer.MAX_VALUE));
    }

    static void runOfANewObject() {
        DrumMachine x = new DrumMachine();
        Due.refusedWithoutTrace("run(0)", x, STATE, () -> x.run(0));
        Due.refusedWithoutTrace("run(300)", x, STATE, () -> x.run(300));
    }

    static void runAfterStop() {
        DrumMachine x = threeStepsAndStop();
        x.run(9);
        Due.refusedWithoutTrace("run(0)", x, STATE, () -> x.run(0));
        Due.refusedWithoutTrace("run(1)", x, STATE, () -> x.run(1));
    }

    static void runAfterAFault() {
        DrumMachine x = threeStepsAndFault();
        x.run(9);
        Due.refusedWithoutTrace("run(0)", x, STATE, () -> x.run(0));
        Due.refusedWithoutTrace("run(1)", x, STATE, () -> x.run(1));
    }

    static void runWithWrongStepsOfAStoppedMachine() {
        DrumMachine x = new DrumMachine();
        Due.refused("run(-1)", ARGUMENT, () -> x.run(-1));
        Due.refused("run(301)", ARGUMENT, () -> x.run(301));
    }

    static void runTillJustBeforeStop() {
        DrumMachine x = threeStepsAndStop();
        Due.same("run(3)", x.run(3), 3);
        Due.same("fault", x.fault(), -1);
        Due.same("next", x.next(), 3);
    }

    static void runTillStopCountsIt() {
        DrumMachine x = threeStepsAndStop();
        Due.same("run(4)", x.run(4), 4);
        Due.same("fault", x.fault(), 0);
        Due.same("time", x.time(), 4);
        Due.same("next", x.next(), 77);
    }

    static void runBehindStop() {
        DrumMachine x = threeStepsAndStop();
        Due.same("run(300)", x.run(300), 4);
        Due.same("fault", x.fault(), 0);
        Due.same("time", x.time(), 4);
    }

    static void runOfStopAlone() {
        DrumMachine x = threeStepsAndStop();
        x.start(3);
        Due.same("run(1)", x.run(1), 1);
        Due.same("fault", x.fault(), 0);
    }

    static void runTillAFaultDoesNotCountIt() {
        DrumMachine x = threeStepsAndFault();
        Due.same("run(300)", x.run(300), 3);
        Due.same("fault", x.fault(), 2);
        Due.same("next", x.next(), 3);
        Due.same("time with the instruction's access", x.time(), 4);
    }

    static void runTillJustBeforeAFault() {
        DrumMachine x = threeStepsAndFault();
        Due.same("run(3)", x.run(3), 3);
        Due.same("fault", x.fault(), -1);
        Due.same("run(1)", x.run(1), 0);
        Due.same("fault then", x.fault(), 2);
    }

    static void runInPartsIsARunInOne() {
        DrumMachine x = threeStepsAndStop();
        DrumMachine y = threeStepsAndStop();
        x.run(4);
        y.run(1);
        y.run(0);
        y.run(2);
        y.run(1);
        Due.same("the state", Bench.stateOf(y), Bench.stateOf(x));
    }

    static void everyFaultHasItsNumber() {
        DrumMachine x = Bench.holding(5, 0, false, 9, false);
        Bench.step(x, 0, 0);
        Due.same("none", x.fault(), -1);
        Bench.step(x, 1, 0);
        Due.same("STOP", x.fault(), 0);
        x.flip(63, 0, 0);
        Bench.step(x, 69, 63);
        Due.same("not valid", x.fault(), 1);
        Bench.step(x, 69, 200);
        Due.same("no address", x.fault(), 2);
        Bench.step(x, 14, Bench.BEHIND);
        Due.same("no quotient", x.fault(), 3);
        Bench.step(x, 70, Bench.BEHIND);
        Due.same("no card", x.fault(), 4);
        Bench.step(x, 84, 64);
        Due.same("none such", x.fault(), 5);
    }

    static void waitsNotAtAllAtItsAngle() {
        Due.same("from 0 for 0", timeOfOneFrom(new DrumMachine(), 0), 1);
        Due.same("from 0 for 50", timeOfOneFrom(new DrumMachine(), 50), 1);
        Due.same("from 49 for 199", timeOfOneFrom(atAngle(49), 199), 1);
    }

    static void waitsNearlyAWholeTurn() {
        Due.same("from 0 for 49", timeOfOneFrom(new DrumMachine(), 49), 50);
        Due.same("from 0 for 199", timeOfOneFrom(new DrumMachine(), 199), 50);
        Due.same("from 1 for 0", timeOfOneFrom(atAngle(1), 0), 50);
        Due.same("from 30 for 79", timeOfOneFrom(atAngle(30), 79), 50);
    }

    static void waitsOverTheTurn() {
        Due.same("from 49 for 0", timeOfOneFrom(atAngle(49), 0), 2);
        Due.same("from 49 for 150", timeOfOneFrom(atAngle(49), 150), 2);
        Due.same("from 40 for 110", timeOfOneFrom(atAngle(40), 110), 21);
    }

    static void everyAddressHasItsAngle() {
        for (int address = 0; address < 200; address++) {
            Due.same("time for " + address, timeOfOneFrom(new DrumMachine(), address), address % 50 + 1);
        }
    }

    static void dataRightBehindTheInstruction() {
        DrumMachine x = Bench.holdingNothing();
        Due.same("time", Bench.step(x, 69, 11), 2);
        Due.same("time three tracks on", Bench.step(x, 69, 161), 2);
    }

    static void dataAtTheInstructionsAngle() {
        DrumMachine x = Bench.holdingNothing();
        Due.same("time", Bench.step(x, 69, 60), 51);
        Due.same("time of the instruction itself", Bench.step(x, 69, 10), 51);
    }

    static void dataTwoBehindTheInstruction() {
        DrumMachine x = Bench.holdingNothing();
        Due.same("time", Bench.step(x, 69, 12), 3);
    }

    static void dataOverTheTurn() {
        DrumMachine x = Bench.holdingNothing();
        Due.same("time", Bench.step(x, 69, 100), 1 + 39 + 1);
    }

    static void instructionAtTheLastAngleAndDataAtTheFirst() {
        DrumMachine x = new DrumMachine();
        x.word(199, Bench.instruction(69, 150, 0), false);
        Due.same("time", timeOfOneFrom(x, 199), 51);
    }

    static void timeGoesOnAfterStopAndStart() {
        DrumMachine x = threeStepsAndStop();
        x.run(9);
        x.start(3);
        x.run(9);
        Due.same("time", x.time(), 54);
    }

    static void nextIsTheInstructionsNext() {
        DrumMachine x = new DrumMachine();
        x.word(0, 199, false);
        x.word(199, 9999, false);
        x.start(0);
        x.run(1);
        Due.same("next", x.next(), 199);
        x.run(1);
        Due.same("next of four digits", x.next(), 9999);
        Due.same("that is no fault yet", x.fault(), -1);
        Due.same("but then", x.run(1), 0);
        Due.same("fault", x.fault(), 2);
        Due.same("next still", x.next(), 9999);
        Due.same("time", x.time(), 50);
    }

    static void nextJustBehindTheDrum() {
        DrumMachine x = new DrumMachine();
        x.word(0, 200, false);
        x.start(0);
        Due.same("one step", x.run(2), 1);
        Due.same("fault", x.fault(), 2);
        Due.same("next", x.next(), 200);
    }

    static void theSignOfAnInstructionIsOfNoMatter() {
        DrumMachine x = Bench.holdingNothing();
        x.word(Bench.BEHIND, 5, false);
        x.word(Bench.HERE, Bench.instruction(15, Bench.BEHIND, Bench.THEN), true);
        Due.same("time", Bench.stepThatStands(x), 4);
        Bench.goesOn(x);
        Bench.holds(x, 0, 5, false);
    }

    static void registersAreThree() {
        DrumMachine x = Bench.holding(1, 2, false, 3, false);
        Due.same("register(0)", x.register(0), 1);
        Due.same("register(1)", x.register(1), 2);
        Due.same("register(2)", x.register(2), 3);
    }

    static void registersHaveTenDigits() {
        DrumMachine x = Bench.holding(Bench.MOST, Bench.MOST, true, Bench.MOST, true);
        for (int which = 0; which < 3; which++) {
            Due.same("register(" + which + ")", x.register(which), 9999999999L);
        }
    }

    static void registerBelowTheFirst() {
        DrumMachine x = new DrumMachine();
        Due.refused("register(-1)", INDEX, () -> x.register(-1));
        Due.refused("register(least)", INDEX, () -> x.register(Integer.MIN_VALUE));
    }

    static void registerBehindTheLast() {
        DrumMachine x = new DrumMachine();
        Due.refused("register(3)", INDEX, () -> x.register(3));
        Due.refused("register(most)", INDEX, () -> x.register(Integer.MAX_VALUE));
    }

    static void signsAreThree() {
        DrumMachine x = Bench.holding(1, 0, true, 0, false);
        Due.same("the accumulator's", x.sign(0), true);
        Due.same("not the distributor's", x.sign(1), false);
        Due.same("not overflow", x.sign(2), false);
        x = Bench.holding(1, 0, false, 0, true);
        Due.same("not the accumulator's", x.sign(0), false);
        Due.same("the distributor's", x.sign(1), true);
        Due.same("no overflow", x.sign(2), false);
        x = Bench.overflowing(1, 0);
        Due.same("plus", x.sign(0), false);
        Due.same("plus too", x.sign(1), false);
        Due.same("overflow", x.sign(2), true);
    }

    static void signBelowTheFirst() {
        DrumMachine x = new DrumMachine();
        Due.refused("sign(-1)", INDEX, () -> x.sign(-1));
        Due.refused("sign(least)", INDEX, () -> x.sign(Integer.MIN_VALUE));
    }

    static void signBehindTheLast() {
        DrumMachine x = new DrumMachine();
        Due.refused("sign(3)", INDEX, () -> x.sign(3));
        Due.refused("sign(most)", INDEX, () -> x.sign(Integer.MAX_VALUE));
    }

    static void askingChangesNothing() {
        DrumMachine x = Bench.overflowing(7, 8);
        String before = Bench.stateOf(x);
        Due.same("the state asked again", Bench.stateOf(x), before);
        Due.same("overflow asked again", x.sign(2) && x.sign(2), true);
    }
}
