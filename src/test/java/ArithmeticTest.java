/** The operations that add, subtract, multiply, divide and shift: a method for each case. */
final class ArithmeticTest {
    private static final long MOST = Bench.MOST;
    private static final int D = Bench.BEHIND;

    public static void main(String[] args) {
        Cases.runAll(ArithmeticTest.class);
    }

    private static long stepWith(DrumMachine x, int operation, long word, boolean minus) {
        x.word(D, word, minus);
        return Bench.step(x, operation, D);
    }

    private static void oneAddition(int operation, boolean minus, long upper, long lower, boolean sum) {
        DrumMachine x = Bench.holding(10, 5, false, 1, false);
        Due.same("time of " + operation, stepWith(x, operation, 2, minus), 4);
        Bench.holds(x, upper, lower, sum);
        Bench.distributes(x, 2, minus);
        Bench.overflows(x, false);
        Bench.goesOn(x);
    }

    static void addUpper() {
        oneAddition(10, false, 12, 5, false);
        oneAddition(10, true, 8, 5, false);
    }

    static void subtractUpper() {
        oneAddition(11, false, 8, 5, false);
        oneAddition(11, true, 12, 5, false);
    }

    static void addLower() {
        oneAddition(15, false, 10, 7, false);
        oneAddition(15, true, 10, 3, false);
    }

    static void subtractLower() {
        oneAddition(16, false, 10, 3, false);
        oneAddition(16, true, 10, 7, false);
    }

    static void resetAndAddUpper() {
        oneAddition(60, false, 2, 0, false);
        oneAddition(60, true, 2, 0, true);
    }

    static void resetAndSubtractUpper() {
        oneAddition(61, false, 2, 0, true);
        oneAddition(61, true, 2, 0, false);
    }

    static void resetAndAddLower() {
        oneAddition(65, false, 0, 2, false);
        oneAddition(65, true, 0, 2, true);
    }

    static void resetAndSubtractLower() {
        oneAddition(66, false, 0, 2, true);
        oneAddition(66, true, 0, 2, false);
    }

    static void resetAndAddLowerAsPlus() {
        oneAddition(67, false, 0, 2, false);
        oneAddition(67, true, 0, 2, false);
    }

    static void carryFromTheLower() {
        DrumMachine x = Bench.holding(0, MOST, false, 0, false);
        stepWith(x, 15, 1, false);
        Bench.holds(x, 1, 0, false);
        Bench.overflows(x, false);
    }

    static void carryThroughTheUpper() {
        DrumMachine x = Bench.holding(8999999999L, MOST, true, 0, false);
        stepWith(x, 15, MOST, true);
        Bench.holds(x, 9000000000L, 9999999998L, true);
        Bench.overflows(x, false);
    }

    static void borrowFromTheUpper() {
        DrumMachine x = Bench.holding(1, 0, false, 0, false);
        stepWith(x, 16, 1, false);
        Bench.holds(x, 0, MOST, false);
    }

    static void upperThroughZero() {
        DrumMachine x = Bench.holding(3, 4, false, 0, false);
        stepWith(x, 11, 4, false);
        Bench.holds(x, 0, 9999999996L, true);
    }

    static void upperToItsOwnDigits() {
        DrumMachine x = Bench.holding(3, 4, false, 0, false);
        stepWith(x, 11, 3, false);
        Bench.holds(x, 0, 4, false);
    }

    static void lowerThroughZero() {
        DrumMachine x = Bench.holding(0, 4, true, 0, false);
        stepWith(x, 15, 9, false);
        Bench.holds(x, 0, 5, false);
    }

    static void lowerThroughZeroFromPlus() {
        DrumMachine x = Bench.holding(0, 3, false, 0, false);
        stepWith(x, 15, MOST, true);
        Bench.holds(x, 0, 9999999996L, true);
    }

    static void sumOfZeroKeepsMinus() {
        DrumMachine x = Bench.holding(0, 5, true, 0, false);
        stepWith(x, 15, 5, false);
        Bench.holds(x, 0, 0, true);
    }

    static void sumOfZeroKeepsPlus() {
        DrumMachine x = Bench.holding(0, 5, false, 0, false);
        stepWith(x, 15, 5, true);
        Bench.holds(x, 0, 0, false);
    }

    static void sumOfZeroInTheUpperKeepsItsSign() {
        DrumMachine x = Bench.holding(5, 0, true, 0, false);
        stepWith(x, 10, 5, false);
        Bench.holds(x, 0, 0, true);
        x = Bench.holding(5, 0, false, 0, false);
        stepWith(x, 11, 5, false);
        Bench.holds(x, 0, 0, false);
    }

    static void zeroAddedToMinusZero() {
        DrumMachine x = Bench.holding(0, 5, true, 0, false);
        stepWith(x, 15, 5, false);
        int[] operations = {10, 11, 15, 16};
        for (int operation : operations) {
            stepWith(x, operation, 0, false);
            Bench.holds(x, 0, 0, true);
            stepWith(x, operation, 0, true);
            Bench.holds(x, 0, 0, true);
        }
    }

    static void minusZeroAddedToZero() {
        DrumMachine x = Bench.holdingNothing();
        int[] operations = {10, 11, 15, 16};
        for (int operation : operations) {
            stepWith(x, operation, 0, true);
            Bench.holds(x, 0, 0, false);
            Bench.distributes(x, 0, true);
        }
    }

    static void sumBehindMinusZero() {
        DrumMachine x = Bench.holding(0, 5, true, 0, false);
        stepWith(x, 15, 5, false);
        stepWith(x, 15, 1, false);
        Bench.holds(x, 0, 1, false);
    }

    static void resetMakesPlusFirst() {
        int[] operations = {60, 61, 65, 66, 67};
        for (int operation : operations) {
            for (int sign = 0; sign < 2; sign++) {
                DrumMachine x = Bench.holding(3, 5, true, 0, false);
                stepWith(x, operation, 0, sign == 1);
                Bench.holds(x, 0, 0, false);
            }
        }
    }

    static void resetOfTheMostValue() {
        DrumMachine x = Bench.holding(MOST, MOST, false, 0, false);
        stepWith(x, 60, MOST, false);
        Bench.holds(x, MOST, 0, false);
        stepWith(x, 65, MOST, false);
        Bench.holds(x, 0, MOST, false);
        Bench.overflows(x, false);
    }

    static void theMostThatFits() {
        DrumMachine x = Bench.holding(MOST, 9999999998L, false, 0, false);
        stepWith(x, 15, 1, false);
        Bench.holds(x, MOST, MOST, false);
        Bench.overflows(x, false);
    }

    static void oneMoreThanFits() {
        DrumMachine x = Bench.holding(MOST, MOST, false, 0, false);
        stepWith(x, 15, 1, false);
        Bench.holds(x, 0, 0, false);
        Bench.overflows(x, true);
        Bench.goesOn(x);
    }

    static void oneLessThanFits() {
        DrumMachine x = Bench.holding(MOST, MOST, true, 0, false);
        stepWith(x, 16, 1, false);
        Bench.holds(x, 0, 0, true);
        Bench.overflows(x, true);
    }

    static void upperThatDoesNotFit() {
        DrumMachine x = Bench.holding(MOST, 7, false, 0, false);
        stepWith(x, 10, 3, false);
        Bench.holds(x, 2, 7, false);
        Bench.overflows(x, true);
        x = Bench.holding(MOST, 7, true, 0, false);
        stepWith(x, 11, MOST, false);
        Bench.holds(x, 9999999998L, 7, true);
        Bench.overflows(x, true);
    }

    static void upperThatJustFits() {
        DrumMachine x = Bench.holding(1, MOST, false, 0, false);
        stepWith(x, 10, 9999999998L, false);
        Bench.holds(x, MOST, MOST, false);
        Bench.overflows(x, false);
    }

    static void takingAwayTheMostIsNoOverflow() {
        DrumMachine x = Bench.holding(MOST, 7, false, 0, false);
        stepWith(x, 11, MOST, false);
        Bench.holds(x, 0, 7, false);
        Bench.overflows(x, false);
    }

    static void overflowStaysOn() {
        DrumMachine x = Bench.overflowing(0, 0);
        int[] operations = {10, 11, 15, 16, 60, 61, 65, 66, 67, 69, 19};
        for (int operation : operations) {
            stepWith(x, operation, 1, false);
            Bench.overflows(x, true);
        }
        x = Bench.overflowing(0, 9);
        stepWith(x, 14, 3, false);
        Bench.holds(x, 0, 3, false);
        Bench.overflows(x, true);
    }

    static void multiply() {
        DrumMachine x = Bench.holding(1234567890L, 1, false, 0, false);
        Due.same("time", stepWith(x, 19, 9876543210L, false), 2 + 20 + 90);
        Bench.holds(x, 1219326311L, 1263526901L, false);
        Bench.distributes(x, 9876543210L, false);
        Bench.goesOn(x);
    }

    static void multiplyMakesTheSign() {
        for (int signs = 0; signs < 4; signs++) {
            DrumMachine x = Bench.holding(12, 50, (signs & 1) == 1, 0, false);
            Due.same("time", stepWith(x, 19, 7, (signs & 2) == 2), 2 + 20 + 6);
            Bench.holds(x, 0, 134, signs == 1 || signs == 2);
        }
    }

    static void multiplyTheMost() {
        DrumMachine x = Bench.holding(MOST, MOST, false, 0, false);
        Due.same("time", stepWith(x, 19, MOST, true), 2 + 20 + 180);
        Bench.holds(x, MOST, 0, true);
        Bench.overflows(x, false);
    }

    static void multiplyAnUpperOfZero() {
        DrumMachine x = Bench.holding(0, 9, false, 0, false);
        Due.same("time", stepWith(x, 19, MOST, true), 22);
        Bench.holds(x, 0, 9, true);
    }

    static void multiplyByZero() {
        DrumMachine x = Bench.holding(MOST, MOST, true, 0, false);
        Due.same("time", stepWith(x, 19, 0, false), 2 + 20 + 180);
        Bench.holds(x, 0, MOST, true);
    }

    static void multiplyZeroByZero() {
        DrumMachine x = Bench.holdingNothing();
        Due.same("time", stepWith(x, 19, 0, true), 22);
        Bench.holds(x, 0, 0, true);
    }

    static void multiplyWithACarryIntoTheUpper() {
        DrumMachine x = Bench.holding(1, MOST, false, 0, false);
        stepWith(x, 19, 1, false);
        Bench.holds(x, 1, 0, false);
    }

    static void multiplyTakesTwoForEachUnit() {
        long unit = 1;
        for (int digit = 0; digit < 10; digit++) {
            DrumMachine x = Bench.holding(7 * unit, 0, false, 0, false);
            Due.same("time with 7 as digit " + digit, stepWith(x, 19, 1, false), 2 + 20 + 14);
            Bench.holds(x, 0, 7 * unit, false);
            unit *= 10;
        }
    }

    static void divide() {
        DrumMachine x = Bench.holding(0, 100, false, 0, false);
        Due.same("time", stepWith(x, 14, 7, false), 2 + 20 + 10);
        Bench.holds(x, 2, 14, false);
        Bench.distributes(x, 7, false);
        Bench.goesOn(x);
    }

    static void divideMakesTheSign() {
        for (int signs = 0; signs < 4; signs++) {
            DrumMachine x = Bench.holding(0, 100, (signs & 1) == 1, 0, false);
            stepWith(x, 14, 7, (signs & 2) == 2);
            Bench.holds(x, 2, 14, signs == 1 || signs == 2);
        }
    }

    static void divideTheMost() {
        DrumMachine x = Bench.holding(9999999998L, MOST, true, 0, false);
        Due.same("time", stepWith(x, 14, MOST, true), 2 + 20 + 180);
        Bench.holds(x, 9999999998L, MOST, false);
        Bench.overflows(x, false);
    }

    static void divideAnUpperOneLessThanTheWord() {
        DrumMachine x = Bench.holding(4, 0, false, 0, false);
        Due.same("time", stepWith(x, 14, 5, false), 2 + 20 + 16);
        Bench.holds(x, 0, 8000000000L, false);
        Bench.overflows(x, false);
        Bench.goesOn(x);
    }

    static void divideByOne() {
        DrumMachine x = Bench.holding(0, MOST, true, 0, false);
        stepWith(x, 14, 1, true);
        Bench.holds(x, 0, MOST, false);
        Bench.goesOn(x);
    }

    static void divideWithAQuotientOfZero() {
        DrumMachine x = Bench.holding(0, 3, false, 0, false);
        Due.same("time", stepWith(x, 14, 5, true), 22);
        Bench.holds(x, 3, 0, true);
    }

    static void divideZero() {
        DrumMachine x = Bench.holdingNothing();
        Due.same("time", stepWith(x, 14, 5, false), 22);
        Bench.holds(x, 0, 0, false);
    }

    private static void divisionThatStops(long upper, long word) {
        DrumMachine x = Bench.holding(upper, 6, true, 9, true);
        x.word(D, word, true);
        Due.same("time: waiting and access of both", Bench.step(x, 14, D), 2);
        Bench.faulted(x, 3);
        Bench.overflows(x, true);
        Bench.holds(x, upper, 6, true);
        Bench.distributes(x, 9, true);
        Due.same("the word", x.get(D), -word);
    }

    static void divideAnUpperThatIsTheWord() {
        divisionThatStops(5, 5);
        divisionThatStops(MOST, MOST);
    }

    static void divideAnUpperAboveTheWord() {
        divisionThatStops(5, 4);
        divisionThatStops(MOST, 1);
    }

    static void divideByZero() {
        divisionThatStops(5, 0);
    }

    static void divideZeroByZero() {
        divisionThatStops(0, 0);
    }

    static void divideThatStopsDoesNotCount() {
        DrumMachine x = Bench.holding(5, 6, true, 9, true);
        x.word(Bench.HERE, Bench.instruction(14, D, Bench.THEN), false);
        Due.same("run(3)", x.run(3), 0);
    }

    static void divideThatStopsWithOverflowOn() {
        DrumMachine x = Bench.overflowing(5, 0);
        stepWith(x, 14, 5, false);
        Bench.faulted(x, 3);
        Bench.overflows(x, true);
    }

    static void shiftRightByNothing() {
        int[] data = {0, 10, 100, 9990};
        for (int d : data) {
            DrumMachine x = Bench.holding(1234567890L, 9876543215L, true, 8, false);
            Due.same("time", Bench.step(x, 30, d), 1);
            Bench.holds(x, 1234567890L, 9876543215L, true);
            Bench.goesOn(x);
        }
    }

    static void shiftRightByOne() {
        DrumMachine x = Bench.holding(1234567890L, 9876543215L, true, 8, false);
        Due.same("time", Bench.step(x, 30, 1), 2);
        Bench.holds(x, 123456789L, 987654321L, true);
        Bench.distributes(x, 8, false);
    }

    static void shiftRightByNine() {
        int[] data = {9, 19, 199, 9999};
        for (int d : data) {
            DrumMachine x = Bench.holding(1234567890L, 9876543215L, false, 8, false);
            Due.same("time", Bench.step(x, 30, d), 10);
            Bench.holds(x, 1, 2345678909L, false);
        }
    }

    static void shiftRightTillNothingIsLeft() {
        DrumMachine x = Bench.holding(0, 123456789L, true, 8, false);
        Bench.step(x, 30, 9);
        Bench.holds(x, 0, 0, true);
        Bench.overflows(x, false);
    }

    static void shiftLeftByNothing() {
        int[] data = {0, 10, 100, 9990};
        for (int d : data) {
            DrumMachine x = Bench.holding(1234567890L, 9876543215L, true, 8, false);
            Due.same("time", Bench.step(x, 35, d), 1);
            Bench.holds(x, 1234567890L, 9876543215L, true);
            Bench.goesOn(x);
        }
    }

    static void shiftLeftByOne() {
        DrumMachine x = Bench.holding(1234567890L, 9876543215L, true, 8, false);
        Due.same("time", Bench.step(x, 35, 1), 2);
        Bench.holds(x, 2345678909L, 8765432150L, true);
        Bench.distributes(x, 8, false);
    }

    static void shiftLeftByNine() {
        int[] data = {9, 19, 199, 9999};
        for (int d : data) {
            DrumMachine x = Bench.holding(1234567890L, 9876543215L, false, 8, false);
            Due.same("time", Bench.step(x, 35, d), 10);
            Bench.holds(x, 987654321L, 5000000000L, false);
        }
    }

    static void shiftLeftThatLosesDigitsIsNoOverflow() {
        DrumMachine x = Bench.holding(MOST, MOST, true, 8, false);
        Bench.step(x, 35, 9);
        Bench.holds(x, MOST, 9000000000L, true);
        Bench.overflows(x, false);
    }

    static void shiftLeftTillNothingIsLeft() {
        DrumMachine x = Bench.holding(1234567890L, 0, true, 8, false);
        Bench.step(x, 35, 9);
        Bench.step(x, 35, 1);
        Bench.holds(x, 0, 0, true);
    }

    static void roundByOne() {
        DrumMachine x = Bench.holding(1234567890L, 9876543215L, true, 8, false);
        Due.same("time", Bench.step(x, 31, 1), 3);
        Bench.holds(x, 123456789L, 987654322L, true);
        Bench.distributes(x, 8, false);
        Bench.goesOn(x);
    }

    static void roundByNine() {
        DrumMachine x = Bench.holding(1234567890L, 9876543215L, false, 8, false);
        Due.same("time", Bench.step(x, 31, 9999), 11);
        Bench.holds(x, 1, 2345678910L, false);
    }

    static void roundByTenForZero() {
        int[] data = {0, 10, 100, 9990};
        for (int d : data) {
            DrumMachine x = Bench.holding(1234567890L, 9876543215L, true, 8, false);
            Due.same("time", Bench.step(x, 31, d), 12);
            Bench.holds(x, 0, 1234567891L, true);
        }
    }

    static void roundWithFourLost() {
        DrumMachine x = Bench.holding(0, 1049, false, 8, false);
        Due.same("time", Bench.step(x, 31, 2), 4);
        Bench.holds(x, 0, 10, false);
    }

    static void roundWithFiveLost() {
        DrumMachine x = Bench.holding(0, 1050, false, 8, false);
        Due.same("time", Bench.step(x, 31, 2), 4);
        Bench.holds(x, 0, 11, false);
    }

    static void roundLooksAtTheLastDigitThatWasLostAlone() {
        DrumMachine x = Bench.holding(0, 9, true, 8, false);
        Bench.step(x, 31, 2);
        Bench.holds(x, 0, 0, true);
    }

    static void roundOfAMinusNumberGoesAwayFromZero() {
        DrumMachine x = Bench.holding(0, 25, true, 8, false);
        Bench.step(x, 31, 1);
        Bench.holds(x, 0, 3, true);
    }

    static void roundByTenWithFourLost() {
        DrumMachine x = Bench.holding(MOST, 4999999999L, false, 8, false);
        Bench.step(x, 31, 0);
        Bench.holds(x, 0, MOST, false);
    }

    static void roundByTenWithACarryIntoTheUpper() {
        DrumMachine x = Bench.holding(MOST, 5000000000L, false, 8, false);
        Bench.step(x, 31, 0);
        Bench.holds(x, 1, 0, false);
        Bench.overflows(x, false);
    }

    static void roundOfTheMost() {
        DrumMachine x = Bench.holding(MOST, MOST, false, 8, false);
        Bench.step(x, 31, 1);
        Bench.holds(x, 1000000000L, 0, false);
        Bench.overflows(x, false);
    }

    static void roundOfMinusZeroWithOneMore() {
        DrumMachine x = Bench.holding(0, 5, true, 8, false);
        Bench.step(x, 31, 1);
        Bench.holds(x, 0, 1, true);
    }
}
