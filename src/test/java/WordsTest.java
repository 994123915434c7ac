/** Promises 1 (a new object), 2 (word), 3 (flip) and 17 (get), and the code of the digits: a method for each case. */
final class WordsTest {
    private static final Class<IndexOutOfBoundsException> INDEX = IndexOutOfBoundsException.class;
    private static final Class<IllegalArgumentException> ARGUMENT = IllegalArgumentException.class;

    public static void main(String[] args) {
        Cases.runAll(WordsTest.class);
    }

    private static int code(int digit) {
        return 1 << digit % 5 | 1 << (digit < 5 ? 5 : 6);
    }

    /** Turns the bits of a digit that differ; answers what the last flip answered. */
    private static boolean turn(DrumMachine x, int address, int digit, int differing) {
        boolean answer = x.get(address) != Bench.NOT_VALID;
        for (int bit = 0; bit < 7; bit++) {
            if ((differing >> bit & 1) == 1) {
                answer = x.flip(address, digit, bit);
            }
        }
        return answer;
    }

    /** The sign of a word can be seen at 0 too, when it is loaded. */
    private static boolean signOfWord(DrumMachine x, int address) {
        x.word(Bench.HERE, Bench.instruction(69, address, Bench.THEN), false);
        Bench.stepThatStands(x);
        return x.sign(1);
    }

    static void newObjectHasWordsOfZero() {
        DrumMachine x = new DrumMachine();
        for (int address = 0; address < 200; address++) {
            Due.same("get(" + address + ")", x.get(address), 0);
        }
    }

    static void newObjectHasWordsThatArePlus() {
        DrumMachine x = new DrumMachine();
        for (int address = 0; address < 200; address++) {
            Due.same("the sign of word " + address, signOfWord(x, address), false);
        }
    }

    static void newObjectHasTimeZero() {
        Due.same("time", new DrumMachine().time(), 0);
    }

    static void newObjectIsStoppedByFaultZero() {
        DrumMachine x = new DrumMachine();
        Due.same("fault", x.fault(), 0);
        Due.refused("run(1)", IllegalStateException.class, () -> x.run(1));
    }

    static void newObjectHasNextZero() {
        Due.same("next", new DrumMachine().next(), 0);
    }

    static void newObjectHasRegistersOfZero() {
        Bench.holds(new DrumMachine(), 0, 0, false);
        Bench.distributes(new DrumMachine(), 0, false);
        Bench.overflows(new DrumMachine(), false);
    }

    static void newObjectHasNoLines() {
        DrumMachine x = new DrumMachine();
        Due.refused("assemble", IllegalStateException.class, () -> x.assemble(false));
        Due.same("the first line's number", x.line(0, 0, 0, 0), 0);
    }

    static void newObjectHasNothingReserved() {
        DrumMachine x = new DrumMachine();
        x.line(-1, 0, -1, -1);
        Due.same("the first place", x.assemble(false), 0);
    }

    static void newObjectHasNoSymbolWithAPlace() {
        DrumMachine x = new DrumMachine();
        for (int symbol = 0; symbol < 20; symbol++) {
            Due.same("place(" + symbol + ")", x.place(symbol), -1);
        }
    }

    static void newObjectHasNoCards() {
        DrumMachine x = new DrumMachine();
        Bench.step(x, 70, Bench.BEHIND);
        Due.same("fault of READ CARD", x.fault(), 4);
        Due.same("the first card", x.card(0, false), 1);
    }

    static void newObjectHasNoOutput() {
        DrumMachine x = new DrumMachine();
        Due.same("outputs", x.outputs(), 0);
        Due.refused("output(0)", INDEX, () -> x.output(0));
    }

    static void objectsAreApart() {
        DrumMachine x = new DrumMachine();
        DrumMachine other = new DrumMachine();
        other.word(3, 5, true);
        other.card(1, false);
        other.line(7, 1, 0, 0);
        other.start(9);
        Due.same("word", x.get(3), 0);
        Due.same("card", x.card(1, false), 1);
        Due.same("line", x.line(7, 1, 0, 0), 0);
        Due.same("next", x.next(), 0);
    }

    static void wordAtTheFirstAddress() {
        DrumMachine x = new DrumMachine();
        x.word(0, 1234567890L, false);
        Due.same("get(0)", x.get(0), 1234567890L);
        Due.same("get(1)", x.get(1), 0);
    }

    static void wordAtTheLastAddress() {
        DrumMachine x = new DrumMachine();
        x.word(199, 1234567890L, true);
        Due.same("get(199)", x.get(199), -1234567890L);
        Due.same("get(198)", x.get(198), 0);
    }

    static void wordAtEveryAddress() {
        DrumMachine x = new DrumMachine();
        for (int address = 0; address < 200; address++) {
            x.word(address, 10000000L * address + address, address % 3 == 0);
        }
        for (int address = 0; address < 200; address++) {
            long value = 10000000L * address + address;
            Due.same("get(" + address + ")", x.get(address), address % 3 == 0 ? -value : value);
        }
    }

    static void wordBelowTheFirstAddress() {
        DrumMachine x = new DrumMachine();
        Due.refusedWithoutTrace("word(-1)", x, INDEX, () -> x.word(-1, 7, false));
    }

    static void wordBehindTheLastAddress() {
        DrumMachine x = new DrumMachine();
        Due.refusedWithoutTrace("word(200)", x, INDEX, () -> x.word(200, 7, false));
    }

    static void wordAtTheFarthestAddresses() {
        DrumMachine x = new DrumMachine();
        Due.refusedWithoutTrace("word(least)", x, INDEX, () -> x.word(Integer.MIN_VALUE, 7, false));
        Due.refusedWithoutTrace("word(most)", x, INDEX, () -> x.word(Integer.MAX_VALUE, 7, false));
    }

    static void wordOfTheLeastValue() {
        DrumMachine x = new DrumMachine();
        x.word(5, 7, false);
        x.word(5, 0, false);
        Due.same("get(5)", x.get(5), 0);
    }

    static void wordOfTheMostValue() {
        DrumMachine x = new DrumMachine();
        x.word(5, 9999999999L, false);
        Due.same("get(5)", x.get(5), 9999999999L);
        x.word(5, 9999999999L, true);
        Due.same("get(5) with minus", x.get(5), -9999999999L);
    }

    static void wordBeyondThirtyTwoBits() {
        DrumMachine x = new DrumMachine();
        x.word(5, 4294967296L, false);
        Due.same("get(5)", x.get(5), 4294967296L);
    }

    static void wordOfAValueBelowZero() {
        DrumMachine x = new DrumMachine();
        x.word(5, 7, true);
        Due.refusedWithoutTrace("word(5, -1)", x, ARGUMENT, () -> x.word(5, -1, false));
    }

    static void wordOfElevenDigits() {
        DrumMachine x = new DrumMachine();
        x.word(5, 7, true);
        Due.refusedWithoutTrace("word(5, 10^10)", x, ARGUMENT, () -> x.word(5, 10000000000L, false));
    }

    static void wordOfTheFarthestValues() {
        DrumMachine x = new DrumMachine();
        Due.refusedWithoutTrace("word(5, least)", x, ARGUMENT, () -> x.word(5, Long.MIN_VALUE, false));
        Due.refusedWithoutTrace("word(5, most)", x, ARGUMENT, () -> x.word(5, Long.MAX_VALUE, false));
    }

    static void wordWithBothWrong() {
        DrumMachine x = new DrumMachine();
        Due.refusedWithoutTrace("word(200, -1)", x, INDEX, () -> x.word(200, -1, false));
    }

    static void wordOfMinusZero() {
        DrumMachine x = new DrumMachine();
        x.word(5, 0, true);
        Due.same("get(5)", x.get(5), 0);
        Due.same("its sign", signOfWord(x, 5), true);
        x.word(5, 0, false);
        Due.same("its sign as plus", signOfWord(x, 5), false);
    }

    static void wordOverAnother() {
        DrumMachine x = new DrumMachine();
        x.word(5, 9876543210L, true);
        x.word(5, 12, false);
        Due.same("get(5)", x.get(5), 12);
    }

    static void wordOverOneThatIsNotValid() {
        DrumMachine x = new DrumMachine();
        x.flip(5, 3, 4);
        x.word(5, 12, true);
        Due.same("get(5)", x.get(5), -12);
        Due.same("a bit of it turned", x.flip(5, 3, 4), false);
        Due.same("and back", x.flip(5, 3, 4), true);
    }

    static void wordTakesNoTime() {
        DrumMachine x = new DrumMachine();
        x.word(49, 12, true);
        Due.same("time", x.time(), 0);
    }

    /** All the bits of a digit are turned to those of another by hand: then it is that other one. */
    static void everyDigitHasItsCode() {
        DrumMachine x = new DrumMachine();
        for (int from = 0; from < 10; from++) {
            for (int to = 0; to < 10; to++) {
                x.word(9, from * 1000L + 4000000002L, true);
                turn(x, 9, 3, code(from) ^ code(to));
                Due.same(from + " turned to " + to, x.get(9), -(to * 1000L + 4000000002L));
            }
        }
    }

    static void everyPlaceOfAWordHasItsDigit() {
        DrumMachine x = new DrumMachine();
        long unit = 1;
        for (int digit = 0; digit < 10; digit++) {
            x.word(9, 0, false);
            turn(x, 9, digit, code(0) ^ code(7));
            Due.same("digit " + digit, x.get(9), 7 * unit);
            unit *= 10;
        }
    }

    static void justTenCodesAreValid() {
        DrumMachine x = new DrumMachine();
        int held = code(0);
        int valid = 0;
        for (int code = 0; code < 128; code++) {
            boolean answer = turn(x, 100, 9, held ^ code);
            held = code;
            boolean want = Integer.bitCount(code & 31) == 1 && Integer.bitCount(code & 96) == 1;
            Due.same("code " + code + " is valid", answer, want);
            Due.same("get with code " + code, x.get(100) != Bench.NOT_VALID, want);
            valid += want ? 1 : 0;
        }
        Due.same("valid codes", valid, 10);
    }

    static void noneOfTheFiveBits() {
        DrumMachine x = new DrumMachine();
        Due.same("bit 0 of a 0 turned", x.flip(5, 0, 0), false);
        Due.same("get(5)", x.get(5), Bench.NOT_VALID);
    }

    static void twoOfTheFiveBits() {
        DrumMachine x = new DrumMachine();
        Due.same("bit 4 of a 0 turned", x.flip(5, 0, 4), false);
        Due.same("get(5)", x.get(5), Bench.NOT_VALID);
    }

    static void neitherBitFiveNorSix() {
        DrumMachine x = new DrumMachine();
        Due.same("bit 5 of a 0 turned", x.flip(5, 0, 5), false);
        Due.same("get(5)", x.get(5), Bench.NOT_VALID);
    }

    static void bothBitFiveAndSix() {
        DrumMachine x = new DrumMachine();
        Due.same("bit 6 of a 0 turned", x.flip(5, 0, 6), false);
        Due.same("get(5)", x.get(5), Bench.NOT_VALID);
    }

    static void twoBitsTurnedMakeAnotherDigit() {
        DrumMachine x = new DrumMachine();
        x.flip(5, 0, 5);
        Due.same("0 without bit 5, with bit 6", x.flip(5, 0, 6), true);
        Due.same("it is a 5", x.get(5), 5);
        x.flip(5, 0, 0);
        Due.same("5 without bit 0, with bit 4", x.flip(5, 0, 4), true);
        Due.same("it is a 9", x.get(5), 9);
    }

    static void aBitTurnedTwice() {
        DrumMachine x = new DrumMachine();
        x.word(5, 8765432109L, true);
        for (int digit = 0; digit < 10; digit++) {
            for (int bit = 0; bit < 7; bit++) {
                Due.same("turned", x.flip(5, digit, bit), false);
                Due.same("get(5)", x.get(5), Bench.NOT_VALID);
                Due.same("turned back", x.flip(5, digit, bit), true);
                Due.same("get(5) then", x.get(5), -8765432109L);
            }
        }
    }

    static void twoDigitsNotValid() {
        DrumMachine x = new DrumMachine();
        x.word(7, 12, true);
        x.flip(7, 0, 0);
        Due.same("a second digit", x.flip(7, 9, 6), false);
        Due.same("the first put right", x.flip(7, 0, 0), false);
        Due.same("get(7)", x.get(7), Bench.NOT_VALID);
        Due.same("the second put right", x.flip(7, 9, 6), true);
        Due.same("get(7) then", x.get(7), -12);
    }

    static void flipLeavesTheOtherWords() {
        DrumMachine x = new DrumMachine();
        x.flip(7, 9, 6);
        x.flip(7, 0, 0);
        Due.same("the word before", x.get(6), 0);
        Due.same("the word behind", x.get(8), 0);
    }

    static void flipAtTheFirstAddressDigitAndBit() {
        DrumMachine x = new DrumMachine();
        Due.same("flip(0, 0, 0)", x.flip(0, 0, 0), false);
        Due.same("flip(0, 0, 1)", x.flip(0, 0, 1), true);
        Due.same("get(0)", x.get(0), 1);
    }

    static void flipAtTheLastAddressDigitAndBit() {
        DrumMachine x = new DrumMachine();
        Due.same("flip(199, 9, 6)", x.flip(199, 9, 6), false);
        Due.same("flip(199, 9, 5)", x.flip(199, 9, 5), true);
        Due.same("get(199)", x.get(199), 5000000000L);
    }

    static void flipBelowTheFirstAddress() {
        DrumMachine x = new DrumMachine();
        Due.refusedWithoutTrace("flip(-1, 0, 0)", x, INDEX, () -> x.flip(-1, 0, 0));
        Due.refusedWithoutTrace("flip(least, 0, 0)", x, INDEX, () -> x.flip(Integer.MIN_VALUE, 0, 0));
    }

    static void flipBehindTheLastAddress() {
        DrumMachine x = new DrumMachine();
        Due.refusedWithoutTrace("flip(200, 0, 0)", x, INDEX, () -> x.flip(200, 0, 0));
        Due.refusedWithoutTrace("flip(most, 0, 0)", x, INDEX, () -> x.flip(Integer.MAX_VALUE, 0, 0));
    }

    static void flipBelowTheLowestDigit() {
        DrumMachine x = new DrumMachine();
        Due.refusedWithoutTrace("flip(3, -1, 0)", x, INDEX, () -> x.flip(3, -1, 0));
        Due.refusedWithoutTrace("flip(3, least, 0)", x, INDEX, () -> x.flip(3, Integer.MIN_VALUE, 0));
    }

    static void flipAboveTheHighestDigit() {
        DrumMachine x = new DrumMachine();
        Due.refusedWithoutTrace("flip(3, 10, 0)", x, INDEX, () -> x.flip(3, 10, 0));
        Due.refusedWithoutTrace("flip(3, most, 0)", x, INDEX, () -> x.flip(3, Integer.MAX_VALUE, 0));
    }

    static void flipBelowTheLowestBit() {
        DrumMachine x = new DrumMachine();
        Due.refusedWithoutTrace("flip(3, 0, -1)", x, INDEX, () -> x.flip(3, 0, -1));
        Due.refusedWithoutTrace("flip(3, 0, least)", x, INDEX, () -> x.flip(3, 0, Integer.MIN_VALUE));
    }

    static void flipAboveTheHighestBit() {
        DrumMachine x = new DrumMachine();
        Due.refusedWithoutTrace("flip(3, 0, 7)", x, INDEX, () -> x.flip(3, 0, 7));
        Due.refusedWithoutTrace("flip(3, 0, most)", x, INDEX, () -> x.flip(3, 0, Integer.MAX_VALUE));
        Due.refusedWithoutTrace("flip(3, 0, 32)", x, INDEX, () -> x.flip(3, 0, 32));
    }

    static void getBelowTheFirstAddress() {
        DrumMachine x = new DrumMachine();
        Due.refused("get(-1)", INDEX, () -> x.get(-1));
        Due.refused("get(least)", INDEX, () -> x.get(Integer.MIN_VALUE));
    }

    static void getBehindTheLastAddress() {
        DrumMachine x = new DrumMachine();
        Due.refused("get(200)", INDEX, () -> x.get(200));
        Due.refused("get(most)", INDEX, () -> x.get(Integer.MAX_VALUE));
    }

    static void getOfAWordThatIsNotValid() {
        DrumMachine x = new DrumMachine();
        x.word(5, 77, false);
        x.flip(5, 9, 6);
        Due.same("plus", x.get(5), -1 - 9999999999L);
        x.word(5, 77, true);
        x.flip(5, 9, 6);
        Due.same("minus", x.get(5), -1 - 9999999999L);
    }
}
