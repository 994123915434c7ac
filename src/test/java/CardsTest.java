/** Promises 4 (card), 18 (output) and 19 (outputs), READ CARD and PUNCH: a method for each case. */
final class CardsTest {
    private static final Class<IndexOutOfBoundsException> INDEX = IndexOutOfBoundsException.class;
    private static final Class<IllegalArgumentException> ARGUMENT = IllegalArgumentException.class;
    private static final Class<IllegalStateException> STATE = IllegalStateException.class;

    public static void main(String[] args) {
        Cases.runAll(CardsTest.class);
    }

    private static DrumMachine withCards(int count) {
        DrumMachine x = Bench.holding(0, 0, false, 123, true);
        for (int i = 1; i <= count; i++) {
            x.card(i, false);
        }
        return x;
    }

    /** Reads one card; answers the word that came. */
    private static long readOne(DrumMachine x) {
        Bench.step(x, 70, Bench.BEHIND);
        return x.get(Bench.BEHIND);
    }

    private static DrumMachine withOutput(int count) {
        DrumMachine x = new DrumMachine();
        for (int i = 0; i < count; i++) {
            x.word(Bench.BEHIND, i * 100L, i % 2 == 1);
            Bench.step(x, 71, Bench.BEHIND);
        }
        return x;
    }

    static void cardsAreCounted() {
        DrumMachine x = new DrumMachine();
        for (int i = 1; i <= 20; i++) {
            Due.same("card " + i, x.card(i, false), i);
        }
    }

    static void cardWhenTwentyAreToBeRead() {
        DrumMachine x = withCards(20);
        Due.refusedWithoutTrace("card 21", x, STATE, () -> x.card(21, false));
        for (int i = 1; i <= 20; i++) {
            Due.same("card " + i + " is still the one", readOne(x), i);
        }
        Bench.step(x, 70, Bench.BEHIND);
        Due.same("there is none behind them", x.fault(), 4);
    }

    static void cardWhenNineteenAreToBeRead() {
        DrumMachine x = withCards(19);
        Due.same("card 20", x.card(20, false), 20);
    }

    static void cardThatFindsRoomAgain() {
        DrumMachine x = withCards(20);
        Due.same("one is read", readOne(x), 1);
        Due.same("one more", x.card(21, true), 20);
        Due.refused("and no more", STATE, () -> x.card(22, false));
        for (int i = 2; i <= 20; i++) {
            Due.same("card " + i, readOne(x), i);
        }
        Due.same("the last one", readOne(x), -21);
    }

    static void cardsThatAreReadDontCount() {
        DrumMachine x = withCards(2);
        readOne(x);
        readOne(x);
        Due.same("after two that were read", x.card(3, false), 1);
    }

    static void cardsRoundTheirRow() {
        DrumMachine x = new DrumMachine();
        for (int round = 0; round < 3; round++) {
            for (int i = 1; i <= 17; i++) {
                Due.same("put", x.card(100L * round + i, i % 2 == 0), i);
            }
            for (int i = 1; i <= 17; i++) {
                long value = 100L * round + i;
                Due.same("read", readOne(x), i % 2 == 0 ? -value : value);
            }
        }
    }

    static void cardOfTheLeastValue() {
        DrumMachine x = Bench.holdingNothing();
        x.word(Bench.BEHIND, 5, false);
        Due.same("card(0)", x.card(0, false), 1);
        Due.same("the word", readOne(x), 0);
    }

    static void cardOfTheMostValue() {
        DrumMachine x = Bench.holdingNothing();
        Due.same("card", x.card(9999999999L, true), 1);
        Due.same("the word", readOne(x), -9999999999L);
    }

    static void cardOfMinusZero() {
        DrumMachine x = Bench.holdingNothing();
        x.card(0, true);
        readOne(x);
        Bench.step(x, 69, Bench.BEHIND);
        Bench.distributes(x, 0, true);
    }

    static void cardBelowZero() {
        DrumMachine x = new DrumMachine();
        Due.refusedWithoutTrace("card(-1)", x, ARGUMENT, () -> x.card(-1, true));
        Due.refusedWithoutTrace("card(least)", x, ARGUMENT, () -> x.card(Long.MIN_VALUE, true));
        Due.same("they don't count", x.card(1, false), 1);
    }

    static void cardOfElevenDigits() {
        DrumMachine x = new DrumMachine();
        Due.refusedWithoutTrace("card(10^10)", x, ARGUMENT, () -> x.card(10000000000L, false));
        Due.refusedWithoutTrace("card(most)", x, ARGUMENT, () -> x.card(Long.MAX_VALUE, false));
        Due.same("they don't count", x.card(1, false), 1);
    }

    static void cardThatIsWrongWhenTwentyAreToBeRead() {
        DrumMachine x = withCards(20);
        Due.refused("card(-1)", ARGUMENT, () -> x.card(-1, false));
        Due.refused("card(10^10)", ARGUMENT, () -> x.card(10000000000L, false));
    }

    static void readCard() {
        DrumMachine x = withCards(1);
        x.card(44, true);
        Due.same("time", Bench.step(x, 70, Bench.BEHIND), 12);
        Bench.goesOn(x);
        Due.same("the first", x.get(Bench.BEHIND), 1);
        Due.same("the second", readOne(x), -44);
        Bench.holds(x, 0, 0, false);
    }

    static void readCardLeavesTheDistributor() {
        DrumMachine x = withCards(1);
        readOne(x);
        Bench.distributes(x, 123, true);
    }

    static void readCardWithoutACard() {
        DrumMachine x = withCards(0);
        x.word(Bench.BEHIND, 8, true);
        x.word(Bench.HERE, Bench.instruction(70, Bench.BEHIND, Bench.THEN), false);
        String before = Bench.withoutTime(x);
        Due.same("time: waiting and access of both", Bench.stepThatStands(x), 2);
        Bench.faulted(x, 4);
        Due.same("all is as it was", Bench.withoutTime(x), before);
    }

    static void readCardAfterTheLastCard() {
        DrumMachine x = withCards(1);
        x.word(Bench.HERE, Bench.instruction(70, Bench.BEHIND, Bench.HERE), false);
        x.start(Bench.HERE);
        Due.same("steps done", x.run(5), 1);
        Bench.faulted(x, 4);
        x.card(9, false);
        x.start(Bench.HERE);
        Due.same("with a card it goes on", x.run(1), 1);
        Due.same("its word", x.get(Bench.BEHIND), 9);
    }

    static void readCardOverAWordThatIsNotValid() {
        DrumMachine x = withCards(1);
        x.flip(Bench.BEHIND, 0, 3);
        Due.same("the word", readOne(x), 1);
        Bench.goesOn(x);
    }

    static void readCardOverItsOwnInstruction() {
        DrumMachine x = withCards(1);
        Due.same("time: a whole turn till it comes round", Bench.step(x, 70, Bench.HERE), 61);
        Bench.goesOn(x);
        Due.same("the word", x.get(Bench.HERE), 1);
    }

    static void readCardAtTheFirstAndTheLastAddress() {
        DrumMachine x = withCards(2);
        Bench.step(x, 70, 0);
        Bench.step(x, 70, 199);
        Due.same("get(0)", x.get(0), 1);
        Due.same("get(199)", x.get(199), 2);
    }

    static void readCardAtNoAddress() {
        DrumMachine x = withCards(1);
        Due.same("time: the instruction's alone", Bench.step(x, 70, 200), 1);
        Bench.faulted(x, 2);
        Due.same("the card is still to be read", x.card(2, false), 2);
    }

    static void readCardAtNoAddressWithoutACard() {
        DrumMachine x = withCards(0);
        Bench.step(x, 70, 200);
        Bench.faulted(x, 2);
    }

    static void readCardWhenTheOutputIsFull() {
        DrumMachine x = withOutput(40);
        x.card(6, false);
        Due.same("the word", readOne(x), 6);
        Bench.goesOn(x);
    }

    static void punch() {
        DrumMachine x = Bench.holding(1, 2, true, 3, false);
        x.word(Bench.BEHIND, 42, true);
        Due.same("time", Bench.step(x, 71, Bench.BEHIND), 12);
        Bench.goesOn(x);
        Due.same("outputs", x.outputs(), 1);
        Due.same("output(0)", x.output(0), -42);
        Bench.holds(x, 1, 2, true);
    }

    static void punchedWordGoesIntoTheDistributor() {
        DrumMachine x = Bench.holding(0, 0, false, 3, false);
        x.word(Bench.BEHIND, 42, true);
        Bench.step(x, 71, Bench.BEHIND);
        Bench.distributes(x, 42, true);
    }

    static void punchOfTheEdgesOfValues() {
        DrumMachine x = new DrumMachine();
        x.word(60, 9999999999L, false);
        x.word(61, 9999999999L, true);
        x.word(62, 0, true);
        for (int address = 60; address < 63; address++) {
            Bench.step(x, 71, address);
        }
        Due.same("the most", x.output(0), 9999999999L);
        Due.same("the most with minus", x.output(1), -9999999999L);
        Due.same("minus zero", x.output(2), 0);
    }

    static void punchOfTheFirstAndTheLastAddress() {
        DrumMachine x = new DrumMachine();
        x.word(0, 5, false);
        x.word(199, 6, false);
        Bench.step(x, 71, 0);
        Bench.step(x, 71, 199);
        Due.same("output(0)", x.output(0), 5);
        Due.same("output(1)", x.output(1), 6);
    }

    static void punchOfItsOwnInstruction() {
        DrumMachine x = new DrumMachine();
        Due.same("time", Bench.step(x, 71, Bench.HERE), 61);
        Due.same("output(0)", x.output(0), 7100100022L);
    }

    static void punchOfFortyWords() {
        DrumMachine x = new DrumMachine();
        for (int i = 0; i < 40; i++) {
            x.word(Bench.BEHIND, i * 100L, i % 2 == 1);
            Bench.step(x, 71, Bench.BEHIND);
            Bench.goesOn(x);
            Due.same("outputs", x.outputs(), i + 1);
        }
        for (int i = 0; i < 40; i++) {
            Due.same("output(" + i + ")", x.output(i), i % 2 == 1 ? -100L * i : 100L * i);
        }
    }

    static void punchWhenTheOutputHasForty() {
        DrumMachine x = withOutput(40);
        x.word(Bench.BEHIND, 77, false);
        x.word(Bench.HERE, Bench.instruction(71, Bench.BEHIND, Bench.THEN), false);
        x.start(Bench.HERE);
        String before = Bench.withoutTime(x);
        Due.same("time: waiting and access of both", Bench.stepThatStands(x), 2);
        Bench.faulted(x, 4);
        Due.same("outputs", x.outputs(), 40);
        Bench.distributes(x, 3900, true);
        Due.same("all is as it was", Bench.withoutTime(x), before);
    }

    static void punchOfAWordThatIsNotValid() {
        DrumMachine x = Bench.holding(0, 0, false, 3, true);
        x.flip(Bench.BEHIND, 0, 0);
        Due.same("time", Bench.step(x, 71, Bench.BEHIND), 2);
        Bench.faulted(x, 1);
        Due.same("outputs", x.outputs(), 0);
        Bench.distributes(x, 3, true);
    }

    static void punchOfAWordThatIsNotValidWhenTheOutputHasForty() {
        DrumMachine x = withOutput(40);
        x.flip(Bench.BEHIND, 0, 0);
        Bench.step(x, 71, Bench.BEHIND);
        Bench.faulted(x, 1);
    }

    static void punchAtNoAddressWhenTheOutputHasForty() {
        DrumMachine x = withOutput(40);
        Bench.step(x, 71, 200);
        Bench.faulted(x, 2);
    }

    static void outputStaysWhenTheWordChanges() {
        DrumMachine x = withOutput(2);
        x.word(Bench.BEHIND, 5, false);
        x.flip(Bench.BEHIND, 0, 1);
        Due.same("output(1)", x.output(1), -100);
    }

    static void outputStaysWhenLinesAreCleared() {
        DrumMachine x = withOutput(2);
        x.clear();
        Due.same("outputs", x.outputs(), 2);
    }

    static void outputBelowTheFirst() {
        DrumMachine x = withOutput(2);
        Due.refused("output(-1)", INDEX, () -> x.output(-1));
        Due.refused("output(least)", INDEX, () -> x.output(Integer.MIN_VALUE));
    }

    static void outputBehindTheLast() {
        DrumMachine x = withOutput(2);
        Due.same("output(1)", x.output(1), -100);
        Due.refused("output(2)", INDEX, () -> x.output(2));
        Due.refused("output(most)", INDEX, () -> x.output(Integer.MAX_VALUE));
    }

    static void outputBehindTheLastOfForty() {
        DrumMachine x = withOutput(40);
        Due.same("output(39)", x.output(39), -3900);
        Due.refused("output(40)", INDEX, () -> x.output(40));
    }

    static void outputOfNone() {
        DrumMachine x = new DrumMachine();
        Due.refused("output(0)", INDEX, () -> x.output(0));
        Due.same("outputs", x.outputs(), 0);
    }
}
