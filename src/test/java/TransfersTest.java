/** LOAD, the stores and LOOK UP: a method for each case. */
final class TransfersTest {
    private static final long MOST = Bench.MOST;
    private static final int D = Bench.BEHIND;

    public static void main(String[] args) {
        Cases.runAll(TransfersTest.class);
    }

    /** A machine whose words from an address on are these, and whose distributor is the one to look for. */
    private static DrumMachine withTable(int from, long[] words, long sought) {
        DrumMachine x = Bench.holding(1, 9876543210L, true, sought, true);
        for (int i = 0; i < words.length; i++) {
            x.word(from + i, words[i], i % 2 == 0);
        }
        return x;
    }

    private static void found(DrumMachine x, int address) {
        Bench.goesOn(x);
        Bench.holds(x, 1, 9800003210L + address * 10000L, true);
    }

    private static void notFound(DrumMachine x, int fault) {
        Bench.faulted(x, fault);
        Bench.holds(x, 1, 9876543210L, true);
    }

    static void load() {
        DrumMachine x = Bench.holding(1, 2, true, 3, false);
        x.word(D, 4, true);
        Due.same("time", Bench.step(x, 69, D), 2);
        Bench.holds(x, 1, 2, true);
        Bench.distributes(x, 4, true);
        Bench.goesOn(x);
    }

    static void loadTheMost() {
        DrumMachine x = Bench.holdingNothing();
        x.word(D, MOST, true);
        Bench.step(x, 69, D);
        Bench.distributes(x, MOST, true);
    }

    static void loadMinusZero() {
        DrumMachine x = Bench.holding(0, 0, false, 5, false);
        x.word(D, 0, true);
        Bench.step(x, 69, D);
        Bench.distributes(x, 0, true);
    }

    static void loadTheFirstAndTheLastAddress() {
        DrumMachine x = Bench.holdingNothing();
        x.word(199, 77, false);
        Bench.step(x, 69, 199);
        Bench.distributes(x, 77, false);
        x.word(0, 78, false);
        Bench.step(x, 69, 0);
        Bench.distributes(x, 78, false);
    }

    static void storeLower() {
        DrumMachine x = Bench.holding(11, 22, true, 33, false);
        Due.same("time", Bench.step(x, 20, D), 2);
        Due.same("the word", x.get(D), -22);
        Bench.distributes(x, 22, true);
        Bench.holds(x, 11, 22, true);
        Bench.goesOn(x);
    }

    static void storeUpper() {
        DrumMachine x = Bench.holding(11, 22, true, 33, false);
        Due.same("time", Bench.step(x, 21, D), 2);
        Due.same("the word", x.get(D), -11);
        Bench.distributes(x, 11, true);
        Bench.holds(x, 11, 22, true);
        Bench.goesOn(x);
    }

    static void storeDistributor() {
        DrumMachine x = Bench.holding(11, 22, true, 33, false);
        Due.same("time", Bench.step(x, 24, D), 2);
        Due.same("the word", x.get(D), 33);
        Bench.distributes(x, 33, false);
        Bench.holds(x, 11, 22, true);
        Bench.goesOn(x);
    }

    static void storeDataAddress() {
        DrumMachine x = Bench.holding(5, 1234567890L, false, 9876543210L, true);
        Due.same("time", Bench.step(x, 22, D), 2);
        Due.same("the word", x.get(D), -9834563210L);
        Bench.distributes(x, 9834563210L, true);
        Bench.holds(x, 5, 1234567890L, false);
        Bench.goesOn(x);
    }

    static void storeDataAddressOfZeros() {
        DrumMachine x = Bench.holding(0, 9900009999L, true, MOST, false);
        Bench.step(x, 22, D);
        Due.same("the word", x.get(D), 9900009999L);
        Bench.distributes(x, 9900009999L, false);
    }

    static void storeDataAddressOfNines() {
        DrumMachine x = Bench.holding(0, 99990000L, true, 0, false);
        Bench.step(x, 22, D);
        Due.same("the word", x.get(D), 99990000L);
        Bench.distributes(x, 99990000L, false);
    }

    static void storeTheMost() {
        DrumMachine x = Bench.holding(MOST, MOST, true, MOST, true);
        int[] operations = {20, 21, 22, 24};
        for (int operation : operations) {
            x.word(D, 0, false);
            Bench.step(x, operation, D);
            Due.same("the word by " + operation, x.get(D), -MOST);
        }
    }

    static void storeOverAWordThatIsNotValid() {
        int[] operations = {20, 21, 22, 24};
        for (int operation : operations) {
            DrumMachine x = Bench.holding(7, 7, false, 7, false);
            x.flip(D, 0, 0);
            Bench.step(x, operation, D);
            Bench.goesOn(x);
            Due.same("the word by " + operation, x.get(D), 7);
        }
    }

    static void storeAtTheFirstAndTheLastAddress() {
        int[] operations = {20, 21, 22, 24};
        for (int operation : operations) {
            DrumMachine x = Bench.holding(7, 7, false, 7, false);
            Bench.step(x, operation, 0);
            Due.same("get(0)", x.get(0), 7);
            Bench.step(x, operation, 199);
            Due.same("get(199)", x.get(199), 7);
        }
    }

    static void storeMinusZero() {
        int[] operations = {20, 21, 22, 24};
        for (int operation : operations) {
            DrumMachine x = Bench.holding(0, 1, true, 0, true);
            Bench.step(x, 30, 1);
            Bench.step(x, operation, D);
            Due.same("get", x.get(D), 0);
            Bench.step(x, 69, 150);
            Bench.distributes(x, 0, false);
            Bench.step(x, 69, D);
            Bench.distributes(x, 0, true);
        }
    }

    static void storeTheSignThatIsItsOwn() {
        DrumMachine x = Bench.holding(1, 2, false, 3, true);
        Bench.step(x, 22, D);
        Due.same("STORE DATA ADDRESS has the distributor's", x.get(D), -3);
        Bench.step(x, 24, D);
        Due.same("STORE DISTRIBUTOR too", x.get(D), -3);
        Bench.step(x, 20, D);
        Due.same("STORE LOWER has the accumulator's", x.get(D), 2);
        x = Bench.holding(1, 2, false, 3, true);
        Bench.step(x, 21, D);
        Due.same("STORE UPPER too", x.get(D), 1);
    }

    static void storeOverItsOwnInstruction() {
        DrumMachine x = Bench.holding(0, 33, false, 0, false);
        Due.same("time", Bench.step(x, 20, Bench.HERE), 51);
        Due.same("NEXT is that of the old word", x.next(), Bench.THEN);
        Due.same("the word", x.get(Bench.HERE), 33);
    }

    static void storeOfTheInstructionToCome() {
        DrumMachine x = Bench.holding(0, 100000044L, false, 0, false);
        x.word(Bench.HERE, Bench.instruction(20, Bench.THEN, Bench.THEN), false);
        x.start(Bench.HERE);
        Due.same("run(9)", x.run(9), 2);
        Due.same("the stored STOP was done", x.fault(), 0);
        Due.same("next", x.next(), 44);
    }

    static void lookUpFindsTheFirstWord() {
        DrumMachine x = withTable(D, new long[] {60, 70}, 50);
        Due.same("time", Bench.step(x, 84, D), 2);
        found(x, D);
        Bench.distributes(x, 50, true);
    }

    static void lookUpFindsALaterWord() {
        DrumMachine x = withTable(D, new long[] {49, 10, 51, 90}, 50);
        Due.same("time", Bench.step(x, 84, D), 4);
        found(x, D + 2);
        Bench.distributes(x, 50, true);
    }

    static void lookUpFindsAnEqualWord() {
        DrumMachine x = withTable(D, new long[] {49, 50, 51}, 50);
        Due.same("time", Bench.step(x, 84, D), 3);
        found(x, D + 1);
    }

    static void lookUpOfZeroFindsTheFirstWord() {
        DrumMachine x = withTable(D, new long[] {0, 5}, 0);
        Due.same("time", Bench.step(x, 84, D), 2);
        found(x, D);
    }

    static void lookUpOfTheMost() {
        DrumMachine x = withTable(D, new long[] {9999999998L, MOST}, MOST);
        Due.same("time", Bench.step(x, 84, D), 3);
        found(x, D + 1);
    }

    /** In withTable() the words have both signs; here the signs would tell otherwise. */
    static void lookUpIsWithoutSigns() {
        DrumMachine x = Bench.holding(1, 9876543210L, true, 50, false);
        x.word(D, 60, true);
        Due.same("time", Bench.step(x, 84, D), 2);
        found(x, D);
        x = Bench.holding(1, 9876543210L, true, 50, true);
        x.word(D, 40, false);
        x.word(D + 1, 50, true);
        Due.same("time", Bench.step(x, 84, D), 3);
        found(x, D + 1);
    }

    static void lookUpFromTheMiddleDoesNotGoBack() {
        DrumMachine x = withTable(D, new long[] {60, 40, 70}, 50);
        Due.same("time", Bench.step(x, 84, D + 1), 4);
        found(x, D + 2);
    }

    static void lookUpFindsTheLastOfItsFifty() {
        DrumMachine x = withTable(99, new long[] {50}, 50);
        Due.same("time", Bench.step(x, 84, 50), 1 + 39 + 1 + 49);
        found(x, 99);
    }

    static void lookUpFromTheLastOfItsFifty() {
        DrumMachine x = withTable(99, new long[] {50}, 50);
        Due.same("time", Bench.step(x, 84, 99), 1 + 38 + 1);
        found(x, 99);
    }

    static void lookUpToTheEndOfTheDrum() {
        DrumMachine x = withTable(199, new long[] {50}, 50);
        Due.same("time", Bench.step(x, 84, 150), 1 + 39 + 1 + 49);
        found(x, 199);
    }

    static void lookUpAtTheStartOfTheDrum() {
        DrumMachine x = withTable(0, new long[] {50}, 50);
        Due.same("time", Bench.step(x, 84, 0), 1 + 39 + 1);
        found(x, 0);
    }

    static void lookUpDoesNotGoIntoTheNextFifty() {
        DrumMachine x = withTable(100, new long[] {50}, 50);
        Due.same("time", Bench.step(x, 84, 51), 1 + 40 + 1 + 48);
        notFound(x, 5);
        Bench.distributes(x, 50, true);
        Bench.overflows(x, false);
    }

    static void lookUpDoesNotGoRoundItsFifty() {
        DrumMachine x = withTable(50, new long[] {50}, 50);
        Bench.step(x, 84, 51);
        notFound(x, 5);
    }

    static void lookUpBehindTheEndOfTheDrum() {
        DrumMachine x = withTable(0, new long[] {50}, 50);
        Due.same("time", Bench.step(x, 84, 199), 1 + 38 + 1);
        notFound(x, 5);
    }

    static void lookUpThatFindsNothingInOneWord() {
        DrumMachine x = withTable(99, new long[] {49, 50}, 50);
        Due.same("time", Bench.step(x, 84, 99), 1 + 38 + 1);
        notFound(x, 5);
    }

    static void lookUpThatFaultsDoesNotCount() {
        DrumMachine x = withTable(D, new long[] {49}, 50);
        x.word(Bench.HERE, Bench.instruction(84, D, Bench.THEN), false);
        x.start(Bench.HERE);
        Due.same("run(3)", x.run(3), 0);
    }

    static void lookUpWithAFirstWordThatIsNotValid() {
        DrumMachine x = withTable(D, new long[] {60, 70}, 50);
        x.flip(D, 9, 6);
        Due.same("time", Bench.step(x, 84, D), 2);
        notFound(x, 1);
        Bench.distributes(x, 50, true);
    }

    static void lookUpWithAWordBeforeThatIsNotValid() {
        DrumMachine x = withTable(D, new long[] {10, 20, 30, 60}, 50);
        x.flip(D + 2, 9, 6);
        Due.same("time", Bench.step(x, 84, D), 4);
        notFound(x, 1);
        Bench.distributes(x, 50, true);
    }

    static void lookUpWithTheWordItselfNotValid() {
        DrumMachine x = withTable(D, new long[] {10, 60, 70}, 50);
        x.flip(D + 1, 9, 6);
        Due.same("time", Bench.step(x, 84, D), 3);
        notFound(x, 1);
    }

    static void lookUpWithAWordBehindThatIsNotValid() {
        DrumMachine x = withTable(D, new long[] {10, 60, 70}, 50);
        x.flip(D + 2, 9, 6);
        Due.same("time", Bench.step(x, 84, D), 3);
        found(x, D + 1);
    }

    static void lookUpOfNoneWithAWordThatIsNotValid() {
        DrumMachine x = withTable(D, new long[] {10}, 50);
        x.flip(99, 9, 6);
        Due.same("time", Bench.step(x, 84, D), 2 + 38);
        notFound(x, 1);
    }

    static void lookUpLeavesItsTable() {
        DrumMachine x = withTable(D, new long[] {10, 60}, 50);
        Bench.step(x, 84, D);
        Due.same("the first", x.get(D), -10);
        Due.same("the second", x.get(D + 1), 60);
    }
}
