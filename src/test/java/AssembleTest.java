/** Promise 8 (assemble) and where the assembler places things: a method for each case. */
final class AssembleTest {
    private static final int S = 1000;
    private static final Class<UnsupportedOperationException> FAILS = UnsupportedOperationException.class;

    public static void main(String[] args) {
        Cases.runAll(AssembleTest.class);
    }

    /** Only these addresses are not reserved. */
    private static DrumMachine freeOnlyAt(int... addresses) {
        DrumMachine x = new DrumMachine();
        for (int address = 0; address < 200; address++) {
            boolean free = false;
            for (int one : addresses) {
                free |= one == address;
            }
            if (!free) {
                x.reserve(address);
            }
        }
        return x;
    }

    private static void failsBothWays(DrumMachine x) {
        for (int optimum = 0; optimum < 2; optimum++) {
            boolean best = optimum == 1;
            Due.refusedWithoutTrace("assemble(" + best + ")", x, FAILS, () -> x.assemble(best));
            for (int symbol = 0; symbol < 20; symbol++) {
                Due.same("place(" + symbol + ")", x.place(symbol), -1);
            }
        }
    }

    private static void same(DrumMachine x, int address, int operation, int data, int next) {
        Due.same("get(" + address + ")", x.get(address), Bench.instruction(operation, data, next));
    }

    static void noLines() {
        DrumMachine x = new DrumMachine();
        Due.refusedWithoutTrace("assemble(false)", x, IllegalStateException.class, () -> x.assemble(false));
        Due.refusedWithoutTrace("assemble(true)", x, IllegalStateException.class, () -> x.assemble(true));
    }

    static void noLinesButReservedOnes() {
        DrumMachine x = freeOnlyAt();
        Due.refused("assemble", IllegalStateException.class, () -> x.assemble(true));
    }

    static void theAnswerIsTheFirstLinesLocation() {
        DrumMachine x = new DrumMachine();
        x.line(199, 1, 0, 0);
        x.line(3, 1, 0, 0);
        Due.same("without optimum", x.assemble(false), 199);
        Due.same("with optimum", x.assemble(true), 199);
    }

    static void wordsAtTheFirstAndTheLastAddress() {
        DrumMachine x = new DrumMachine();
        x.line(0, 99, 199, 199);
        x.line(199, 10, 0, 0);
        Due.same("assemble", x.assemble(true), 0);
        same(x, 0, 99, 199, 199);
        same(x, 199, 10, 0, 0);
    }

    static void wordsAreWrittenPlus() {
        DrumMachine x = Bench.holding(0, 0, false, 3, true);
        x.word(100, 77, true);
        x.line(100, 0, 0, 0);
        x.assemble(false);
        Bench.step(x, 69, 100);
        Bench.distributes(x, 0, false);
    }

    static void wordsAreWrittenOverOnesThatAreNotValid() {
        DrumMachine x = new DrumMachine();
        x.flip(5, 3, 3);
        x.line(5, 99, 199, 198);
        x.assemble(true);
        same(x, 5, 99, 199, 198);
    }

    static void onlyLinesAreWritten() {
        DrumMachine x = new DrumMachine();
        x.word(1, 66, true);
        x.word(2, 77, true);
        x.line(S, 69, S + 1, S + 2);
        x.assemble(false);
        same(x, 0, 69, 1, 2);
        Due.same("the place of data", x.get(1), -66);
        Due.same("the place of next", x.get(2), -77);
    }

    static void theMachineIsLeftAsItIs() {
        DrumMachine x = new DrumMachine();
        x.line(30, 1, 0, 0);
        x.assemble(true);
        Due.same("still stopped", x.fault(), 0);
        Due.same("NEXT", x.next(), 0);
        Due.same("time", x.time(), 0);
    }

    static void fortyLinesFollowingOneAnother() {
        DrumMachine x = new DrumMachine();
        for (int i = 0; i < 40; i++) {
            x.line(-1, 69, 0, -1);
        }
        Due.same("assemble", x.assemble(false), 1);
        for (int i = 0; i < 39; i++) {
            same(x, i + 1, 69, 0, i + 2);
        }
        same(x, 40, 69, 0, 0);
    }

    static void openDataIsAddressZero() {
        DrumMachine x = new DrumMachine();
        x.line(7, 69, -1, 7);
        x.assemble(true);
        same(x, 7, 69, 0, 7);
    }

    static void openDataLeavesAddressZeroFree() {
        DrumMachine x = new DrumMachine();
        x.line(-1, 69, -1, 7);
        Due.same("without optimum", x.assemble(false), 0);
        Due.same("with optimum", x.assemble(true), 0);
    }

    static void openNumberOfAShiftIsZero() {
        DrumMachine x = new DrumMachine();
        x.line(7, 35, -1, 7);
        x.assemble(true);
        same(x, 7, 35, 0, 7);
    }

    static void openNextBeforeAnOpenLocation() {
        DrumMachine x = new DrumMachine();
        x.line(100, 69, 5, -1);
        x.line(-1, 1, 5, 5);
        x.assemble(false);
        same(x, 100, 69, 5, 0);
        same(x, 0, 1, 5, 5);
    }

    static void openNextBeforeAnAddress() {
        DrumMachine x = new DrumMachine();
        x.line(100, 69, 5, -1);
        x.line(101, 1, 5, 5);
        x.assemble(false);
        same(x, 100, 69, 5, 0);
        same(x, 101, 1, 5, 5);
    }

    static void openNextBeforeASymbol() {
        DrumMachine x = new DrumMachine();
        x.line(100, 69, 5, -1);
        x.line(S, 1, 5, 5);
        x.line(S + 1, 1, 5, 5);
        x.assemble(false);
        same(x, 100, 69, 5, 0);
        Due.same("no place was given for it", x.place(0), 0);
        Due.same("the symbol behind", x.place(1), 1);
    }

    static void openNextOfTheLastLine() {
        DrumMachine x = new DrumMachine();
        x.line(100, 69, 5, -1);
        x.assemble(false);
        same(x, 100, 69, 5, 0);
    }

    static void openNextOfTheLastLineNeedsNoPlace() {
        DrumMachine x = freeOnlyAt();
        x.line(100, 69, 5, -1);
        Due.same("assemble", x.assemble(true), 100);
        same(x, 100, 69, 5, 0);
    }

    static void openNextOfTheLastLineAfterLinesThatWereCleared() {
        DrumMachine x = new DrumMachine();
        x.line(100, 69, 5, -1);
        x.line(-1, 69, 5, -1);
        x.assemble(true);
        x.clear();
        x.line(100, 69, 5, -1);
        x.assemble(true);
        same(x, 100, 69, 5, 0);
    }

    static void openLocationOfTheFirstLine() {
        DrumMachine x = new DrumMachine();
        x.line(-1, 69, 0, 1);
        Due.same("without optimum", x.assemble(false), 2);
        Due.same("with optimum", x.assemble(true), 50);
    }

    static void openLocationBehindAnAddress() {
        DrumMachine x = new DrumMachine();
        x.line(100, 69, 5, 9);
        x.line(-1, 1, 5, 5);
        x.assemble(false);
        same(x, 100, 69, 5, 9);
        same(x, 0, 1, 5, 5);
        Due.same("nothing at 9", x.get(9), 0);
    }

    static void openLocationBehindASymbol() {
        DrumMachine x = new DrumMachine();
        x.line(100, 69, 5, S);
        x.line(-1, 1, 5, 5);
        x.assemble(false);
        same(x, 100, 69, 5, 0);
        same(x, 1, 1, 5, 5);
    }

    static void openLocationAndOpenNextAreOnePlace() {
        DrumMachine x = freeOnlyAt(60);
        x.line(100, 69, 5, -1);
        x.line(-1, 1, 5, 5);
        x.assemble(true);
        same(x, 100, 69, 5, 60);
        same(x, 60, 1, 5, 5);
    }

    static void aSymbolHasOnePlace() {
        DrumMachine x = new DrumMachine();
        x.line(S, 69, S, S);
        x.line(S + 1, 69, S, S + 1);
        Due.same("assemble", x.assemble(true), 0);
        same(x, 0, 69, 0, 0);
        same(x, 50, 69, 0, 50);
    }

    static void everySymbolGetsAPlace() {
        DrumMachine x = new DrumMachine();
        for (int i = 0; i < 10; i++) {
            x.line(-1, 69, S + 2 * i, S + 2 * i + 1);
        }
        x.assemble(false);
        for (int i = 0; i < 10; i++) {
            Due.same("place(" + 2 * i + ")", x.place(2 * i), 3 * i + 1);
            Due.same("place(" + (2 * i + 1) + ")", x.place(2 * i + 1), 3 * i + 2);
        }
    }

    static void placedInTheOrderLocationDataNext() {
        DrumMachine x = new DrumMachine();
        x.line(S, 10, S + 1, S + 2);
        x.line(S + 3, 10, S + 4, -1);
        x.line(-1, 10, S + 5, S + 6);
        x.assemble(false);
        int[] due = {0, 1, 2, 3, 4, 6, 7};
        for (int symbol = 0; symbol < due.length; symbol++) {
            Due.same("place(" + symbol + ")", x.place(symbol), due[symbol]);
        }
    }

    static void addressesOfEveryPartAreNotFree() {
        DrumMachine x = new DrumMachine();
        x.line(0, 0, 1, 2);
        x.line(S, 0, S + 1, S + 2);
        Due.same("assemble", x.assemble(false), 0);
        Due.same("place(0)", x.place(0), 3);
        Due.same("place(1)", x.place(1), 4);
        Due.same("place(2)", x.place(2), 5);
    }

    static void addressesOfLaterLinesAreNotFree() {
        DrumMachine x = new DrumMachine();
        x.line(S, 0, S + 1, S + 2);
        x.line(0, 0, 1, 2);
        Due.same("assemble", x.assemble(false), 3);
        Due.same("place(1)", x.place(1), 4);
        Due.same("place(2)", x.place(2), 5);
    }

    static void theDataOfABranchIsAnAddress() {
        int[] operations = {0, 1, 44, 45, 46, 47, 90, 99};
        for (int operation : operations) {
            DrumMachine x = new DrumMachine();
            x.line(S, operation, 0, 5);
            Due.same("assemble", x.assemble(false), 1);
        }
    }

    static void theNumberOfAShiftIsNoAddress() {
        int[] operations = {30, 31, 35};
        for (int operation : operations) {
            for (int number = 0; number < 10; number++) {
                DrumMachine x = freeOnlyAt(number);
                x.line(S, operation, number, 100);
                Due.same("assemble", x.assemble(false), number);
                same(x, number, operation, number, 100);
            }
        }
    }

    static void reservedOnesAreNotFree() {
        DrumMachine x = new DrumMachine();
        x.reserve(0);
        x.reserve(2);
        x.line(S, 0, S + 1, 9);
        Due.same("assemble", x.assemble(false), 1);
        Due.same("place(1)", x.place(1), 3);
    }

    static void placesOfTheLastTimeAreFreeAgain() {
        DrumMachine x = new DrumMachine();
        x.line(S, 69, S + 1, -1);
        x.line(-1, 1, S + 1, S);
        for (int time = 0; time < 3; time++) {
            Due.same("without optimum", x.assemble(false), 0);
            Due.same("place(1)", x.place(1), 1);
            Due.same("with optimum", x.assemble(true), 0);
            Due.same("place(1) then", x.place(1), 1);
        }
    }

    static void leastFreeIsTheLastAddress() {
        DrumMachine x = freeOnlyAt(199);
        x.line(S, 0, 5, 5);
        Due.same("without optimum", x.assemble(false), 199);
        Due.same("with optimum", x.assemble(true), 199);
    }

    static void withoutOptimumAnglesAreOfNoMatter() {
        DrumMachine x = freeOnlyAt(30, 60, 100);
        x.line(S, 10, S + 1, S + 2);
        Due.same("assemble", x.assemble(false), 30);
        Due.same("place(1)", x.place(1), 60);
        Due.same("place(2)", x.place(2), 100);
    }

    static void bestForALocationIsAngleZero() {
        DrumMachine x = freeOnlyAt(49, 99, 1, 100);
        x.line(S, 0, 5, 5);
        Due.same("a symbol", x.assemble(true), 100);
        x.clear();
        x.line(-1, 0, 5, 5);
        Due.same("-1", x.assemble(true), 0);
    }

    static void bestForASecondLocationIsAngleZeroToo() {
        DrumMachine x = new DrumMachine();
        x.line(75, 0, 5, 5);
        x.line(S, 0, 5, 5);
        x.line(-1, 0, 6, 6);
        x.assemble(true);
        Due.same("place(0)", x.place(0), 0);
        same(x, 50, 0, 6, 6);
    }

    static void bestForDataIsBehindTheLocation() {
        DrumMachine x = new DrumMachine();
        x.line(60, 69, S, 5);
        x.assemble(true);
        Due.same("place(0)", x.place(0), 11);
    }

    static void bestForDataIsSoWithoutAccessToo() {
        int[] operations = {0, 1, 44, 47, 90, 99};
        for (int operation : operations) {
            DrumMachine x = new DrumMachine();
            x.line(60, operation, S, 5);
            x.assemble(true);
            Due.same("place(0) with " + operation, x.place(0), 11);
        }
    }

    static void bestForDataRoundTheDrum() {
        int[] locations = {49, 99, 149, 199};
        for (int location : locations) {
            DrumMachine x = new DrumMachine();
            x.line(location, 69, S, 5);
            x.assemble(true);
            Due.same("place(0)", x.place(0), 0);
        }
    }

    private static void nextOf(int operation, int location, int data, int want) {
        String what = "next of operation " + operation + " with " + data;
        DrumMachine x = new DrumMachine();
        x.line(location, operation, data, S);
        x.assemble(true);
        Due.same(what, x.place(0), want);
        x.clear();
        x.line(location, operation, data, -1);
        x.line(-1, 1, 199, 198);
        x.assemble(true);
        Due.same(what + ", open", x.get(location) % 10000, want);
        same(x, want, 1, 199, 198);
    }

    static void bestForNextWithoutAccess() {
        int[] operations = {0, 1, 44, 45, 46, 47, 90, 91, 92, 93, 94, 95, 96, 97, 98, 99};
        for (int operation : operations) {
            nextOf(operation, 170, 30, 21);
        }
    }

    static void bestForNextOfAdditions() {
        int[] operations = {10, 11, 15, 16, 60, 61, 65, 66, 67};
        for (int operation : operations) {
            nextOf(operation, 170, 30, 33);
        }
    }

    static void bestForNextOfTransfers() {
        int[] operations = {20, 21, 22, 24, 69, 84};
        for (int operation : operations) {
            nextOf(operation, 170, 30, 31);
        }
    }

    static void bestForNextOfMultiplyAndDivide() {
        nextOf(19, 170, 20, 41);
        nextOf(14, 170, 20, 41);
    }

    static void bestForNextOfCards() {
        nextOf(70, 170, 30, 41);
        nextOf(71, 170, 30, 41);
    }

    static void bestForNextOfShifts() {
        for (int digits = 0; digits < 10; digits++) {
            nextOf(30, 170, digits, 21 + digits);
            nextOf(35, 170, digits, 21 + digits);
        }
        nextOf(30, 170, -1, 21);
        nextOf(35, 170, -1, 21);
    }

    static void bestForNextOfShiftAndRound() {
        for (int digits = 1; digits < 10; digits++) {
            nextOf(31, 170, digits, 22 + digits);
        }
    }

    static void bestForNextOfShiftAndRoundByTen() {
        nextOf(31, 170, 0, 32);
        nextOf(31, 170, -1, 32);
    }

    static void bestForNextWithOpenDataIsBehindAddressZero() {
        nextOf(69, 170, -1, 1);
        nextOf(10, 170, -1, 3);
    }

    static void bestForNextRoundTheDrum() {
        nextOf(0, 149, 30, 0);
        nextOf(69, 170, 149, 0);
        nextOf(19, 170, 30, 1);
        nextOf(19, 170, 197, 18);
        nextOf(71, 170, 189, 0);
        nextOf(31, 138, 0, 0);
    }

    static void bestForNextWithDataThatHasOnlyAName() {
        DrumMachine x = new DrumMachine();
        x.line(60, 10, S, S + 1);
        x.assemble(true);
        Due.same("place(0)", x.place(0), 11);
        Due.same("place(1)", x.place(1), 14);
    }

    static void atAnAngleTheLeastAddress() {
        DrumMachine x = freeOnlyAt(161, 61, 111);
        x.line(60, 69, S, 5);
        x.line(60 + 50, 69, S + 1, 5);
        x.line(60 + 100, 69, S + 2, 5);
        x.assemble(true);
        Due.same("place(0)", x.place(0), 61);
        Due.same("place(1)", x.place(1), 111);
        Due.same("place(2)", x.place(2), 161);
    }

    static void anAngleThatIsFull() {
        DrumMachine x = new DrumMachine();
        x.reserve(11);
        x.reserve(61);
        x.reserve(111);
        x.reserve(161);
        x.line(60, 69, S, 5);
        x.assemble(true);
        Due.same("place(0)", x.place(0), 12);
    }

    static void fiveAtOneAngle() {
        DrumMachine x = new DrumMachine();
        for (int i = 0; i < 5; i++) {
            x.line(S + i, 0, 40, 40);
        }
        x.assemble(true);
        int[] due = {0, 50, 100, 150, 1};
        for (int i = 0; i < 5; i++) {
            Due.same("place(" + i + ")", x.place(i), due[i]);
        }
    }

    static void fromTheLastAngleRoundToTheFirst() {
        DrumMachine x = new DrumMachine();
        for (int address = 49; address < 200; address += 50) {
            x.reserve(address);
        }
        x.reserve(0);
        x.line(48, 69, S, 48);
        x.assemble(true);
        Due.same("place(0)", x.place(0), 50);
    }

    static void nearlyAllRoundTheDrum() {
        DrumMachine x = freeOnlyAt(110);
        x.line(60, 69, S, 5);
        x.assemble(true);
        Due.same("the angle just before the best", x.place(0), 110);
    }

    static void justEnoughFreeAddresses() {
        DrumMachine x = freeOnlyAt(60, 170, 171);
        x.line(S, 10, S + 1, S + 2);
        Due.same("without optimum", x.assemble(false), 60);
        same(x, 60, 10, 170, 171);
        Due.same("with optimum", x.assemble(true), 60);
        same(x, 60, 10, 170, 171);
    }

    static void failsByOneFreeAddressTooFew() {
        DrumMachine x = freeOnlyAt(60, 170);
        x.line(S, 10, S + 1, S + 2);
        failsBothWays(x);
    }

    static void failsByNoPlaceForANamedLocation() {
        DrumMachine x = freeOnlyAt();
        x.line(6, 69, 4, 5);
        x.line(S, 69, 4, 5);
        failsBothWays(x);
    }

    static void failsByNoPlaceForAnOpenLocation() {
        DrumMachine x = freeOnlyAt();
        x.line(-1, 69, 4, 5);
        failsBothWays(x);
    }

    static void failsByNoPlaceForData() {
        DrumMachine x = freeOnlyAt();
        x.line(6, 69, S, 5);
        failsBothWays(x);
    }

    static void failsByNoPlaceForANamedNext() {
        DrumMachine x = freeOnlyAt();
        x.line(6, 69, 4, S);
        failsBothWays(x);
    }

    static void failsByNoPlaceForAnOpenNext() {
        DrumMachine x = freeOnlyAt();
        x.line(6, 69, 4, -1);
        x.line(-1, 69, 4, 5);
        failsBothWays(x);
    }

    static void failsByTheLastLineAlone() {
        DrumMachine x = freeOnlyAt(10, 20);
        x.line(S, 69, S + 1, 5);
        Due.same("without it", x.assemble(true), 10);
        x.line(7, 69, S + 2, 5);
        x.word(10, 9, true);
        Due.refused("with it", FAILS, () -> x.assemble(true));
        Due.same("nothing is written", x.get(10), -9);
        Due.same("place(0) is gone", x.place(0), -1);
        Due.same("place(1) too", x.place(1), -1);
        failsBothWays(x);
    }

    static void whatNeedsNoPlaceDoesNotFail() {
        DrumMachine x = freeOnlyAt();
        x.line(3, 30, -1, -1);
        x.line(4, 69, -1, -1);
        Due.same("assemble", x.assemble(true), 3);
        same(x, 3, 30, 0, 0);
        same(x, 4, 69, 0, 0);
    }

    static void failsByTwoLinesAtOneAddress() {
        DrumMachine x = new DrumMachine();
        x.line(7, 1, 0, 0);
        x.line(8, 1, S, 0);
        x.line(7, 1, 0, 0);
        failsBothWays(x);
    }

    static void failsByTwoLinesThatAreTheSame() {
        DrumMachine x = new DrumMachine();
        x.line(0, 1, 0, 0);
        x.line(0, 1, 0, 0);
        failsBothWays(x);
    }

    static void failsByTwoLinesAtOneSymbol() {
        DrumMachine x = new DrumMachine();
        x.line(S, 0, S + 1, S + 2);
        x.line(S + 1, 0, 9, 9);
        x.line(S, 0, 9, 9);
        failsBothWays(x);
    }

    static void failsByTheFirstAndTheLastOfForty() {
        DrumMachine x = new DrumMachine();
        x.line(199, 0, 0, 0);
        for (int i = 0; i < 38; i++) {
            x.line(-1, 0, 0, 0);
        }
        Due.same("without the last", x.assemble(true), 199);
        x.line(199, 0, 0, 0);
        Due.refused("with it", FAILS, () -> x.assemble(true));
    }

    static void failedPlacesOfBeforeAreGone() {
        DrumMachine x = new DrumMachine();
        x.line(S, 0, S + 1, S + 2);
        x.assemble(false);
        Due.same("place(2) before", x.place(2), 2);
        x.line(S, 0, 9, 9);
        Due.refused("assemble", FAILS, () -> x.assemble(false));
        for (int symbol = 0; symbol < 20; symbol++) {
            Due.same("place(" + symbol + ")", x.place(symbol), -1);
        }
    }

    static void failedLeavesLinesAndReserved() {
        DrumMachine x = new DrumMachine();
        x.reserve(0);
        x.line(7, 1, 5, 5);
        x.line(7, 1, 5, 5);
        Due.refused("assemble", FAILS, () -> x.assemble(true));
        Due.same("the next line's number", x.line(9, 1, 5, 5), 2);
        Due.refused("assemble again", FAILS, () -> x.assemble(true));
        x.clear();
        x.line(-1, 1, 5, 5);
        Due.same("it goes when they are cleared", x.assemble(true), 0);
    }

    static void failedLeavesReserved() {
        DrumMachine x = freeOnlyAt(60, 61);
        x.line(S, 69, S + 1, S + 2);
        Due.refused("assemble", FAILS, () -> x.assemble(true));
        Due.refused("assemble again", FAILS, () -> x.assemble(false));
        Due.same("one more line", x.line(S + 2, 69, S + 1, S), 1);
        Due.refused("assemble with it", FAILS, () -> x.assemble(true));
    }

    static void failedLeavesTheMachine() {
        DrumMachine x = Bench.holding(1, 2, true, 3, false);
        x.line(7, 1, 5, 5);
        x.line(7, 1, 5, 5);
        failsBothWays(x);
        Due.same("it still runs", x.fault(), -1);
    }

    /** A sum of cards; the times are counted out by hand. */
    private static long timeOfSum(boolean optimum) {
        DrumMachine x = new DrumMachine();
        x.card(100, false);
        x.card(20, true);
        x.card(3, false);
        x.line(S, 70, S + 1, -1);
        x.line(-1, 65, S + 1, -1);
        x.line(-1, 70, S + 2, -1);
        x.line(-1, 15, S + 2, -1);
        x.line(-1, 20, S + 4, -1);
        x.line(-1, 71, S + 4, -1);
        x.line(-1, 1, 0, 0);
        x.start(x.assemble(optimum));
        Due.same("seven steps", x.run(300), 7);
        Due.same("stopped", x.fault(), 0);
        Due.same("the sum", x.output(0), 80);
        return x.time();
    }

    static void assembledProgramRuns() {
        Due.same("time without optimum", timeOfSum(false), 411);
        Due.same("time with optimum", timeOfSum(true), 171);
    }
}
