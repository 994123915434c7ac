/** Promises 4 (card), 18 (output) and 19 (outputs), with the operations READ CARD and PUNCH. */
final class CardsTest {
    public static void main(String[] args) {
        counts();
        refusedCards();
        cardsComeInTheirOrder();
        readCardLeavesTheDistributor();
        noCard();
        readCardMendsAWord();
        outputHasForty();
        punchOfAnInvalidWord();
        wrongOutputs();
        Due.end();
    }

    private static void counts() {
        DrumMachine x = new DrumMachine();
        for (int i = 1; i <= 20; i++) {
            Due.same("card " + i, x.card(i, false), i);
        }
        Due.refused("card 21", IllegalStateException.class, () -> x.card(21, false));
        Due.refused("a wrong card 21", IllegalArgumentException.class, () -> x.card(-1, false));
        x.word(0, 7000500000L, false);
        x.start(0);
        Due.same("two are read", x.run(2), 2);
        Due.same("the second of them", x.get(50), 2);
        Due.same("the next card", x.card(9999999999L, true), 19);
        Due.same("and one more", x.card(0, true), 20);
        Due.refused("and no more", IllegalStateException.class, () -> x.card(0, false));
        Due.same("18 are read", x.run(18), 18);
        Due.same("the 20th", x.get(50), 20);
        Due.same("then the 21st", x.run(1), 1);
        Due.same("it", x.get(50), -9999999999L);
        Due.same("one is left and one put", x.card(1, false), 2);
    }

    private static void refusedCards() {
        DrumMachine x = new DrumMachine();
        Due.refused("card(-1)", IllegalArgumentException.class, () -> x.card(-1, true));
        Due.refused("card(10^10)", IllegalArgumentException.class, () -> x.card(10000000000L, false));
        Due.same("refused cards don't count", x.card(9999999999L, false), 1);
        Due.same("a card of 0", x.card(0, false), 2);
    }

    private static void cardsComeInTheirOrder() {
        DrumMachine x = new DrumMachine();
        x.card(11, true);
        x.card(22, false);
        x.word(0, 7000600001L, false);
        x.word(1, 7000610002L, false);
        x.start(0);
        Due.same("one step", x.run(1), 1);
        Due.same("time of READ CARD", x.time(), 21);
        Due.same("two steps", x.run(1), 1);
        Due.same("first card", x.get(60), -11);
        Due.same("second card", x.get(61), 22);
        Due.same("time of the second", x.time(), 72);
    }

    private static void readCardLeavesTheDistributor() {
        DrumMachine x = new DrumMachine();
        x.word(0, 6900600001L, false);
        x.word(60, 123, true);
        x.word(1, 7000600002L, false);
        x.card(7, false);
        x.start(0);
        Due.same("load and read a card", x.run(2), 2);
        Due.same("the word", x.get(60), 7);
        Due.same("the distributor stays", x.register(2), 123);
        Due.same("its sign stays", x.sign(1), true);
    }

    private static void noCard() {
        DrumMachine x = new DrumMachine();
        x.word(5, 7000250006L, false);
        x.word(25, 8, true);
        x.start(5);
        Due.same("no step is done", x.run(3), 0);
        Due.same("fault", x.fault(), 4);
        Due.same("NEXT", x.next(), 5);
        Due.same("time of a read without card", x.time(), 26);
        Due.same("the word stays", x.get(25), -8);
        x.card(9, false);
        x.start(5);
        Due.same("with a card it goes", x.run(1), 1);
        Due.same("the card's word", x.get(25), 9);
        x.word(6, 7002000006L, false);
        Due.same("no such address", x.run(1), 0);
        Due.same("comes before no card", x.fault(), 2);
    }

    private static void readCardMendsAWord() {
        DrumMachine x = new DrumMachine();
        x.flip(60, 0, 3);
        x.word(0, 7000600001L, false);
        x.card(5, false);
        x.start(0);
        Due.same("a card over a bad word", x.run(1), 1);
        Due.same("the word is good", x.get(60), 5);
    }

    private static void outputHasForty() {
        DrumMachine x = new DrumMachine();
        x.word(0, 7100100000L, false);
        x.start(0);
        for (int i = 0; i < 40; i++) {
            x.word(10, i * 100L, i % 2 == 1);
            Due.same("punch " + i, x.run(1), 1);
            Due.same("outputs after " + i, x.outputs(), i + 1);
            Due.same("time after " + i, x.time(), 50L * i + 21);
        }
        x.word(10, 77, true);
        Due.same("punch 41", x.run(1), 0);
        Due.same("fault", x.fault(), 4);
        Due.same("time with the fault", x.time(), 2011);
        Due.same("outputs", x.outputs(), 40);
        Due.same("the distributor is that of before", x.register(2), 3900);
        Due.same("NEXT", x.next(), 0);
        for (int i = 0; i < 40; i++) {
            Due.same("output(" + i + ")", x.output(i), i % 2 == 1 ? -100L * i : 100L * i);
        }
        x.flip(10, 0, 0);
        x.start(0);
        x.run(1);
        Due.same("an invalid word comes before a full output", x.fault(), 1);
        x.word(0, 7102000000L, false);
        x.start(0);
        x.run(1);
        Due.same("no such address comes before a full output", x.fault(), 2);
    }

    private static void punchOfAnInvalidWord() {
        DrumMachine x = new DrumMachine();
        x.word(0, 7100100001L, false);
        x.word(10, 42, true);
        x.flip(10, 0, 0);
        x.start(0);
        Due.same("punch of an invalid word", x.run(1), 0);
        Due.same("fault", x.fault(), 1);
        Due.same("outputs", x.outputs(), 0);
        x.flip(10, 0, 0);
        x.start(0);
        Due.same("punch of a valid word", x.run(1), 1);
        Due.same("output(0)", x.output(0), -42);
        Due.same("what is read goes into the distributor", x.register(2), 42);
        Due.same("its sign too", x.sign(1), true);
    }

    private static void wrongOutputs() {
        DrumMachine x = new DrumMachine();
        Due.refused("output(0) of none", IndexOutOfBoundsException.class, () -> x.output(0));
        Due.refused("output(-1)", IndexOutOfBoundsException.class, () -> x.output(-1));
        x.word(0, 7100000000L, false);
        x.start(0);
        x.run(2);
        Due.same("output(1)", x.output(1), 7100000000L);
        Due.refused("output(2)", IndexOutOfBoundsException.class, () -> x.output(2));
        Due.refused("output(40)", IndexOutOfBoundsException.class, () -> x.output(40));
        Due.refused("output(-1) still", IndexOutOfBoundsException.class, () -> x.output(-1));
        x.clear();
        Due.same("clear leaves the output", x.outputs(), 2);
    }
}
