/** Promises 5 (line), 6 (reserve), 7 (clear), 8 (assemble) and 9 (place). */
final class AssemblerTest {
    private static final int S = 1000;

    public static void main(String[] args) {
        numbersOfLines();
        wrongLines();
        operationsOfLines();
        wrongReservesAndPlaces();
        openParts();
        openEnds();
        leastFree();
        addressesOfEveryPartAreNotFree();
        numbersOfShiftsAreNoAddresses();
        bestForLocationAndData();
        bestForNext();
        roundTheDrum();
        reservedAddresses();
        failsByTwoLines();
        failsByNoFreeAddress();
        failsByOnePart();
        assembledAgain();
        clears();
        writesPlusAndValid();
        leavesTheMachine();
        assembledProgramRuns();
        Due.end();
    }

    private static void numbersOfLines() {
        DrumMachine x = new DrumMachine();
        for (int i = 0; i < 40; i++) {
            Due.same("line " + i, x.line(-1, 0, -1, -1), i);
        }
        Due.refused("line 40", IllegalStateException.class, () -> x.line(-1, 0, -1, -1));
        Due.refused("a wrong line 40", IllegalArgumentException.class, () -> x.line(-2, 0, -1, -1));
        x.clear();
        Due.same("after clear", x.line(-1, 0, -1, -1), 0);
    }

    private static void wrongLines() {
        DrumMachine x = new DrumMachine();
        int[] wrong = {-2, 200, 999, 1020, Integer.MIN_VALUE, Integer.MAX_VALUE};
        for (int part : wrong) {
            Due.refused("location " + part, IllegalArgumentException.class, () -> x.line(part, 0, 0, 0));
            Due.refused("data " + part, IllegalArgumentException.class, () -> x.line(0, 0, part, 0));
            Due.refused("next " + part, IllegalArgumentException.class, () -> x.line(0, 0, 0, part));
        }
        int[] shifts = {30, 31, 35};
        int[] noNumber = {-2, 10, 199, 1000};
        for (int operation : shifts) {
            for (int part : noNumber) {
                Due.refused("shift by " + part, IllegalArgumentException.class, () -> x.line(0, operation, part, 0));
            }
        }
        Due.same("refused lines don't count", x.line(199, 31, 9, 1019), 0);
        Due.same("the edges of parts", x.line(0, 0, 199, 1000), 1);
        Due.same("the edges of parts", x.line(1019, 35, 0, 0), 2);
        Due.same("the edges of parts", x.line(-1, 30, -1, -1), 3);
    }

    private static void operationsOfLines() {
        String known = " 0 1 10 11 14 15 16 19 20 21 22 24 30 31 35 44 45 46 47 60 61 65 66 67 69 70 71 84"
                + " 90 91 92 93 94 95 96 97 98 99 ";
        DrumMachine x = new DrumMachine();
        for (int number = -3; number < 110; number++) {
            int operation = number;
            x.clear();
            if (known.contains(" " + operation + " ")) {
                Due.same("operation " + operation, x.line(0, operation, 0, 0), 0);
            } else {
                Due.refused("operation " + operation, IllegalArgumentException.class,
                        () -> x.line(0, operation, 0, 0));
            }
        }
    }

    private static void wrongReservesAndPlaces() {
        DrumMachine x = new DrumMachine();
        Due.refused("reserve(-1)", IndexOutOfBoundsException.class, () -> x.reserve(-1));
        Due.refused("reserve(200)", IndexOutOfBoundsException.class, () -> x.reserve(200));
        Due.taken("reserve(0)", () -> x.reserve(0));
        Due.taken("reserve(199)", () -> x.reserve(199));
        Due.taken("reserve(199) again", () -> x.reserve(199));
        Due.refused("place(-1)", IndexOutOfBoundsException.class, () -> x.place(-1));
        Due.refused("place(20)", IndexOutOfBoundsException.class, () -> x.place(20));
        Due.same("place(19)", x.place(19), -1);
    }

    private static void openParts() {
        DrumMachine x = new DrumMachine();
        x.line(100, 69, -1, -1);
        x.line(101, 69, 7, -1);
        x.line(-1, 69, 8, 9);
        x.line(-1, 31, -1, -1);
        x.word(0, 5, false);
        Due.same("assemble", x.assemble(false), 100);
        Due.same("data 0, next 0 as the following line has a location", x.get(100), 6900000000L);
        Due.same("next is the following line, at 0 as nothing names it", x.get(101), 6900070000L);
        Due.same("that line", x.get(0), 6900080009L);
        Due.same("a new place as the line before has a next", x.get(1), 3100000000L);
        Due.same("the last line's next is 0, without a place", x.get(2), 0);
    }

    /** The first line's location and the last line's next, both -1; lines from before clear() don't count. */
    private static void openEnds() {
        DrumMachine x = new DrumMachine();
        for (int i = 0; i < 40; i++) {
            x.line(-1, 69, 0, -1);
        }
        Due.same("forty open lines", x.assemble(false), 1);
        Due.same("the first of them", x.get(1), 6900000002L);
        Due.same("the last of them has next 0", x.get(40), 6900000000L);
        Due.same("forty open lines with optimum", x.assemble(true), 50);
        x.clear();
        x.line(-1, 69, 5, -1);
        Due.same("one open line", x.assemble(false), 0);
        Due.same("it has next 0", x.get(0), 6900050000L);
        x.clear();
        x.line(-1, 69, -1, -1);
        Due.same("-1 as data leaves address 0 free", x.assemble(true), 0);
    }

    private static void addressesOfEveryPartAreNotFree() {
        DrumMachine x = new DrumMachine();
        x.line(0, 0, 1, 2);
        x.line(S, 0, S + 1, S + 2);
        x.line(4, 0, 5, 6);
        Due.same("assemble", x.assemble(false), 0);
        Due.same("behind the first line's parts", x.place(0), 3);
        Due.same("behind a later line's parts", x.place(1), 7);
        Due.same("then", x.place(2), 8);
        Due.same("with optimum", x.assemble(true), 0);
        Due.same("location", x.place(0), 50);
        Due.same("data", x.place(1), 51);
        Due.same("next", x.place(2), 101);
    }

    private static void leastFree() {
        DrumMachine x = new DrumMachine();
        x.line(S, 10, S + 1, S + 2);
        x.line(S + 3, 10, S + 1, S + 2);
        x.line(S + 2, 0, 1, 3);
        x.line(-1, 0, S, S + 4);
        Due.same("assemble", x.assemble(false), 0);
        Due.same("place(0)", x.place(0), 0);
        Due.same("place(1)", x.place(1), 2);
        Due.same("place(2)", x.place(2), 4);
        Due.same("place(3)", x.place(3), 5);
        Due.same("place(4)", x.place(4), 7);
        Due.same("place(5)", x.place(5), -1);
        Due.same("line 0", x.get(0), 1000020004L);
        Due.same("line 1", x.get(5), 1000020004L);
        Due.same("line 2", x.get(4), 10003L);
        Due.same("line 3", x.get(6), 7L);
    }

    private static void numbersOfShiftsAreNoAddresses() {
        DrumMachine x = new DrumMachine();
        x.line(S, 30, 0, S + 1);
        x.line(S + 1, 35, 1, S + 2);
        x.line(S + 2, 31, 2, 5);
        x.line(-1, 44, 3, 5);
        Due.same("assemble", x.assemble(false), 0);
        Due.same("place(1)", x.place(1), 1);
        Due.same("place(2)", x.place(2), 2);
        Due.same("shift right", x.get(0), 3000000001L);
        Due.same("shift left", x.get(1), 3500010002L);
        Due.same("shift and round", x.get(2), 3100020005L);
        Due.same("the data part of a branch is an address", x.get(4), 4400030005L);
    }

    private static void bestForLocationAndData() {
        DrumMachine x = new DrumMachine();
        x.line(S, 44, S + 1, 20);
        x.line(S + 2, 0, S + 3, 20);
        x.line(149, 69, S + 4, 20);
        x.line(60, 1, S + 5, 20);
        x.line(-1, 1, 20, 20);
        Due.same("a location's best is 0", x.assemble(true), 0);
        Due.same("data: location + 1", x.place(1), 1);
        Due.same("a second location", x.place(2), 50);
        Due.same("data: the next free at that angle", x.place(3), 51);
        Due.same("data round the drum", x.place(4), 100);
        Due.same("data of STOP", x.place(5), 11);
        Due.same("an open location", x.get(150), 100200020L);
    }

    private static void bestForNext() {
        int[] plain = {0, 1, 44, 45, 46, 47, 90, 95, 99};
        for (int operation : plain) {
            nextOf(operation, 170, 30, 21);
        }
        int[] adding = {10, 11, 15, 16, 60, 61, 65, 66, 67};
        for (int operation : adding) {
            nextOf(operation, 170, 30, 33);
        }
        int[] quick = {20, 21, 22, 24, 69, 84};
        for (int operation : quick) {
            nextOf(operation, 170, 30, 31);
        }
        nextOf(19, 170, 30, 1);
        nextOf(14, 170, 30, 1);
        nextOf(70, 170, 30, 41);
        nextOf(71, 170, 30, 41);
        for (int digits = 0; digits < 10; digits++) {
            nextOf(30, 170, digits, 21 + digits);
            nextOf(35, 170, digits, 21 + digits);
            nextOf(31, 170, digits, 22 + (digits == 0 ? 10 : digits));
        }
        nextOf(31, 170, -1, 32);
        nextOf(30, 170, -1, 21);
        nextOf(69, 170, -1, 1);
        nextOf(19, 170, 199, 20);
    }

    private static void nextOf(int operation, int location, int data, int want) {
        String what = "next of operation " + operation + " with " + data;
        DrumMachine x = new DrumMachine();
        x.line(location, operation, data, S);
        Due.same(what + ": assemble", x.assemble(true), location);
        Due.same(what, x.place(0), want);
        x.clear();
        x.line(location, operation, data, -1);
        x.line(-1, 1, 199, 199);
        x.assemble(true);
        Due.same(what + ", open", x.get(location) % 10000, want);
        Due.same(what + ", the line there", x.get(want), 101990199L);
    }

    private static void roundTheDrum() {
        DrumMachine x = new DrumMachine();
        for (int address = 49; address < 200; address += 50) {
            x.reserve(address);
        }
        x.reserve(0);
        x.reserve(50);
        x.line(48, 10, S, 48);
        x.assemble(true);
        Due.same("from 49 round to 0, there the least", x.place(0), 100);
    }

    private static void reservedAddresses() {
        DrumMachine x = new DrumMachine();
        x.reserve(0);
        x.reserve(2);
        x.line(S, 0, S + 1, 9);
        x.line(2, 0, 9, 9);
        Due.same("reserved ones are passed over", x.assemble(false), 1);
        Due.same("and by data", x.place(1), 3);
        Due.same("a line may say a reserved one", x.get(2), 90009L);
        x.reserve(1);
        Due.same("reserved later", x.assemble(false), 3);
    }

    private static void failsByTwoLines() {
        DrumMachine x = new DrumMachine();
        x.line(S, 0, S + 1, S + 2);
        Due.same("assemble", x.assemble(false), 0);
        x.line(S + 1, 0, 9, 9);
        x.line(S, 0, 9, 9);
        x.word(0, 77, true);
        for (int optimum = 0; optimum < 2; optimum++) {
            boolean best = optimum == 1;
            Due.refused("one symbol, two lines", UnsupportedOperationException.class, () -> x.assemble(best));
            Due.same("nothing is written", x.get(0), -77);
            for (int symbol = 0; symbol < 20; symbol++) {
                Due.same("place(" + symbol + ") after it failed", x.place(symbol), -1);
            }
        }
        DrumMachine y = new DrumMachine();
        y.line(7, 1, 0, 0);
        y.line(8, 1, 0, 0);
        y.line(7, 1, 0, 0);
        Due.refused("one address, two lines", UnsupportedOperationException.class, () -> y.assemble(true));
        Due.same("the lines are still there", y.line(9, 1, 0, 0), 3);
        Due.same("nothing at 8", y.get(8), 0);
    }

    private static void failsByNoFreeAddress() {
        DrumMachine x = new DrumMachine();
        for (int address = 0; address < 200; address++) {
            if (address != 60 && address != 170 && address != 171) {
                x.reserve(address);
            }
        }
        x.line(S, 10, S + 1, S + 2);
        Due.same("just enough, without optimum", x.assemble(false), 60);
        Due.same("its next", x.get(60), 1001700171L);
        Due.same("just enough, with optimum", x.assemble(true), 60);
        Due.same("its next", x.get(60), 1001700171L);
        for (int open = 0; open < 3; open++) {
            boolean best = open == 1;
            x.clear();
            for (int address = 2; address < 200; address++) {
                x.reserve(address);
            }
            x.line(S, 10, S + 1, open == 0 ? S + 2 : -1);
            x.line(open == 0 ? 5 : -1, 1, 5, 5);
            x.word(0, 4, false);
            Due.refused("no place for a next", UnsupportedOperationException.class, () -> x.assemble(best));
            Due.same("place(0)", x.place(0), -1);
            Due.same("place(1)", x.place(1), -1);
            Due.same("nothing is written", x.get(0), 4);
        }
        x.reserve(0);
        Due.refused("no place for data", UnsupportedOperationException.class, () -> x.assemble(true));
        x.reserve(1);
        Due.refused("no place for a location", UnsupportedOperationException.class, () -> x.assemble(true));
        x.clear();
        for (int address = 0; address < 200; address++) {
            x.reserve(address);
        }
        x.line(3, 30, -1, -1);
        x.line(4, 69, -1, -1);
        Due.same("what needs no place gets none", x.assemble(true), 3);
    }

    private static void failsByOnePart() {
        int[][] lines = {{S, 69, 4, 5}, {-1, 69, 4, 5}, {6, 69, S, 5}, {6, 69, 4, S}};
        for (int[] line : lines) {
            for (int optimum = 0; optimum < 2; optimum++) {
                boolean best = optimum == 1;
                DrumMachine y = new DrumMachine();
                for (int address = 0; address < 200; address++) {
                    y.reserve(address);
                }
                y.line(3, 69, 4, 5);
                Due.same("without the line", y.assemble(best), 3);
                y.word(3, 9, false);
                y.line(line[0], line[1], line[2], line[3]);
                Due.refused("one part without a place", UnsupportedOperationException.class,
                        () -> y.assemble(best));
                Due.same("nothing is written", y.get(3), 9);
                Due.same("place(0)", y.place(0), -1);
            }
        }
    }

    private static void assembledAgain() {
        DrumMachine x = new DrumMachine();
        x.line(S, 69, S + 1, -1);
        x.line(-1, 1, S + 1, S);
        Due.same("without optimum", x.assemble(false), 0);
        Due.same("again", x.assemble(false), 0);
        Due.same("with", x.assemble(true), 0);
        Due.same("data", x.place(1), 1);
        Due.same("next", x.get(0), 6900010002L);
        x.line(S + 1, 0, 0, 0);
        Due.same("a line leaves the places", x.place(1), 1);
        x.reserve(1);
        Due.same("and a reserve too", x.place(1), 1);
        Due.same("0 is not free any more", x.assemble(true), 50);
        Due.same("nor is 1", x.place(1), 51);
    }

    private static void clears() {
        DrumMachine x = new DrumMachine();
        x.card(5, false);
        x.word(3, 6, true);
        x.reserve(0);
        x.line(S, 1, S + 1, 9);
        x.assemble(false);
        x.start(3);
        x.clear();
        Due.same("place(0) after clear", x.place(0), -1);
        Due.same("place(1) after clear", x.place(1), -1);
        Due.refused("no lines after clear", IllegalStateException.class, () -> x.assemble(true));
        Due.same("the words stay", x.get(1), 100020009L);
        Due.same("NEXT stays", x.next(), 3);
        Due.same("it is not stopped", x.fault(), -1);
        Due.same("the card stays", x.card(5, false), 2);
        x.line(S, 1, 9, 9);
        Due.same("nothing is reserved after clear", x.assemble(false), 0);
        Due.same("old symbols have no place", x.place(1), -1);
    }

    private static void writesPlusAndValid() {
        DrumMachine x = new DrumMachine();
        x.word(5, 77, true);
        x.flip(5, 3, 3);
        x.line(5, 99, 199, 198);
        Due.same("assemble", x.assemble(true), 5);
        Due.same("plus and valid", x.get(5), 9901990198L);
        x.word(5, 77, true);
        x.assemble(false);
        x.word(10, 6900050000L, false);
        x.start(10);
        x.run(1);
        Due.same("its sign is plus", x.sign(1), false);
    }

    private static void leavesTheMachine() {
        DrumMachine x = new DrumMachine();
        x.line(30, 1, 0, 0);
        x.assemble(true);
        Due.same("still stopped", x.fault(), 0);
        Due.same("NEXT", x.next(), 0);
        Due.same("time", x.time(), 0);
    }

    /** A sum of three cards; the times are counted out by hand. */
    private static void assembledProgramRuns() {
        long plain = timeOfSum(false);
        long best = timeOfSum(true);
        Due.same("time without optimum", plain, 411);
        Due.same("time with optimum", best, 171);
    }

    private static long timeOfSum(boolean optimum) {
        DrumMachine x = new DrumMachine();
        x.card(100, false);
        x.card(20, true);
        x.card(3, false);
        x.line(S, 70, S + 1, -1);
        x.line(-1, 65, S + 1, -1);
        x.line(-1, 70, S + 2, -1);
        x.line(-1, 15, S + 2, -1);
        x.line(-1, 20, S + 4, -1);
        x.line(-1, 71, S + 4, -1);
        x.line(-1, 1, 0, 0);
        x.start(x.assemble(optimum));
        Due.same("seven steps", x.run(300), 7);
        Due.same("stopped", x.fault(), 0);
        Due.same("the sum", x.output(0), 80);
        return x.time();
    }
}
