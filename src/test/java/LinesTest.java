/** Promises 5 (line), 6 (reserve), 7 (clear) and 9 (place): a method for each case. */
final class LinesTest {
    private static final int S = 1000;
    private static final Class<IndexOutOfBoundsException> INDEX = IndexOutOfBoundsException.class;
    private static final Class<IllegalArgumentException> ARGUMENT = IllegalArgumentException.class;
    private static final Class<IllegalStateException> STATE = IllegalStateException.class;
    private static final int[] SHIFTS = {30, 31, 35};
    private static final int[] NO_PARTS = {-2, 200, 999, 1020, Integer.MIN_VALUE, Integer.MAX_VALUE};
    private static final int[] EDGES_OF_PARTS = {-1, 0, 199, 1000, 1019};

    public static void main(String[] args) {
        Cases.runAll(LinesTest.class);
    }

    private static DrumMachine withLines(int count) {
        DrumMachine x = new DrumMachine();
        for (int i = 0; i < count; i++) {
            x.line(-1, 0, -1, -1);
        }
        return x;
    }

    /** A refused line must not count: the line behind it still has number 0. */
    private static void refusedLine(int location, int operation, int data, int next) {
        DrumMachine x = new DrumMachine();
        String what = "line(" + location + ", " + operation + ", " + data + ", " + next + ")";
        Due.refusedWithoutTrace(what, x, ARGUMENT, () -> x.line(location, operation, data, next));
        Due.same("the line behind " + what, x.line(0, 0, 0, 0), 0);
    }

    private static void takenLine(int location, int operation, int data, int next) {
        DrumMachine x = new DrumMachine();
        String what = "line(" + location + ", " + operation + ", " + data + ", " + next + ")";
        Due.same(what, x.line(location, operation, data, next), 0);
    }

    static void linesAreNumbered() {
        DrumMachine x = new DrumMachine();
        for (int i = 0; i < 40; i++) {
            Due.same("line " + i, x.line(-1, 0, -1, -1), i);
        }
    }

    static void lineWhenThereAreThirtyNine() {
        Due.same("its number", withLines(39).line(-1, 0, -1, -1), 39);
    }

    static void lineWhenThereAreForty() {
        DrumMachine x = withLines(40);
        Due.refusedWithoutTrace("line", x, STATE, () -> x.line(199, 99, 3, 3));
        Due.same("the forty are as they were", x.assemble(false), 0);
        Due.same("the refused one is none of them", x.get(199), 0);
    }

    static void lineThatIsWrongWhenThereAreForty() {
        DrumMachine x = withLines(40);
        Due.refused("a wrong part", ARGUMENT, () -> x.line(-2, 0, -1, -1));
        Due.refused("a wrong operation", ARGUMENT, () -> x.line(-1, 2, -1, -1));
    }

    static void lineWithALocationThatIsNone() {
        for (int part : NO_PARTS) {
            refusedLine(part, 0, 0, 0);
        }
    }

    static void lineWithADataPartThatIsNone() {
        for (int part : NO_PARTS) {
            refusedLine(0, 0, part, 0);
            refusedLine(0, 69, part, 0);
        }
    }

    static void lineWithANextThatIsNone() {
        for (int part : NO_PARTS) {
            refusedLine(0, 0, 0, part);
        }
    }

    static void lineWithALocationAtTheEdges() {
        for (int part : EDGES_OF_PARTS) {
            takenLine(part, 0, 0, 0);
        }
    }

    static void lineWithADataPartAtTheEdges() {
        for (int part : EDGES_OF_PARTS) {
            takenLine(0, 0, part, 0);
            takenLine(0, 69, part, 0);
        }
    }

    static void lineWithANextAtTheEdges() {
        for (int part : EDGES_OF_PARTS) {
            takenLine(0, 0, 0, part);
        }
    }

    static void lineWithEveryOperation() {
        for (int operation = 0; operation < 100; operation++) {
            if (Bench.hasOperation(operation)) {
                takenLine(0, operation, 0, 0);
            } else {
                refusedLine(0, operation, 0, 0);
            }
        }
    }

    static void lineWithAnOperationBeyondTwoDigits() {
        int[] operations = {-1, -10, 100, 110, 165, Integer.MIN_VALUE, Integer.MAX_VALUE};
        for (int operation : operations) {
            refusedLine(0, operation, 0, 0);
        }
    }

    static void shiftByTheEdgesOfItsNumbers() {
        for (int operation : SHIFTS) {
            takenLine(0, operation, 0, 0);
            takenLine(0, operation, 9, 0);
            takenLine(0, operation, -1, 0);
        }
    }

    static void shiftByAboveNine() {
        for (int operation : SHIFTS) {
            refusedLine(0, operation, 10, 0);
            refusedLine(0, operation, 199, 0);
            refusedLine(0, operation, Integer.MAX_VALUE, 0);
        }
    }

    static void shiftByBelowMinusOne() {
        for (int operation : SHIFTS) {
            refusedLine(0, operation, -2, 0);
            refusedLine(0, operation, Integer.MIN_VALUE, 0);
        }
    }

    static void shiftByASymbol() {
        for (int operation : SHIFTS) {
            refusedLine(0, operation, S, 0);
            refusedLine(0, operation, S + 19, 0);
        }
    }

    static void lineChangesNothingElse() {
        DrumMachine x = Bench.holding(1, 2, true, 3, false);
        String before = Bench.stateOf(x);
        x.line(0, 1, 2, 3);
        x.reserve(9);
        Due.same("the state", Bench.stateOf(x), before);
    }

    static void reserveTheFirstAddress() {
        DrumMachine x = withLines(1);
        x.reserve(0);
        Due.same("without optimum", x.assemble(false), 1);
        Due.same("with optimum", x.assemble(true), 50);
    }

    static void reserveTheLastAddress() {
        DrumMachine x = withLines(1);
        for (int address = 0; address < 199; address++) {
            x.reserve(address);
        }
        Due.same("it alone is free", x.assemble(false), 199);
        x.reserve(199);
        Due.refused("none is", UnsupportedOperationException.class, () -> x.assemble(false));
    }

    static void reserveBelowTheFirstAddress() {
        DrumMachine x = withLines(1);
        Due.refusedWithoutTrace("reserve(-1)", x, INDEX, () -> x.reserve(-1));
        Due.refusedWithoutTrace("reserve(least)", x, INDEX, () -> x.reserve(Integer.MIN_VALUE));
        Due.same("nothing is reserved", x.assemble(false), 0);
    }

    static void reserveBehindTheLastAddress() {
        DrumMachine x = withLines(1);
        Due.refusedWithoutTrace("reserve(200)", x, INDEX, () -> x.reserve(200));
        Due.refusedWithoutTrace("reserve(most)", x, INDEX, () -> x.reserve(Integer.MAX_VALUE));
        Due.same("nothing is reserved", x.assemble(false), 0);
    }

    static void reserveTwice() {
        DrumMachine x = withLines(1);
        x.reserve(0);
        Due.taken("again", () -> x.reserve(0));
        Due.same("still reserved", x.assemble(false), 1);
    }

    static void reserveStaysAfterAssemble() {
        DrumMachine x = withLines(1);
        x.reserve(0);
        x.assemble(false);
        Due.same("assembled again", x.assemble(false), 1);
    }

    static void reserveLeavesThePlaces() {
        DrumMachine x = new DrumMachine();
        x.line(S, 0, 5, 5);
        x.assemble(false);
        x.reserve(0);
        Due.same("place(0)", x.place(0), 0);
        x.assemble(false);
        Due.same("place(0) assembled again", x.place(0), 1);
    }

    static void reservedAddressInALine() {
        DrumMachine x = new DrumMachine();
        x.reserve(2);
        x.line(2, 0, 2, 2);
        Due.same("a line may say it", x.assemble(true), 2);
        Due.same("the word", x.get(2), 20002);
    }

    static void clearOfANewObject() {
        DrumMachine x = new DrumMachine();
        String before = Bench.stateOf(x);
        x.clear();
        Due.same("the state", Bench.stateOf(x), before);
    }

    static void clearTakesTheLines() {
        DrumMachine x = withLines(40);
        x.clear();
        Due.refused("assemble", STATE, () -> x.assemble(true));
        Due.same("the first line's number", x.line(5, 0, 0, 0), 0);
        Due.same("it is the first", x.assemble(true), 5);
    }

    static void clearTakesTheReserved() {
        DrumMachine x = new DrumMachine();
        for (int address = 0; address < 200; address++) {
            x.reserve(address);
        }
        x.clear();
        x.line(-1, 0, -1, -1);
        Due.same("0 is free", x.assemble(false), 0);
        x.clear();
        for (int address = 0; address < 199; address++) {
            x.reserve(address);
        }
        x.line(-1, 0, -1, -1);
        Due.same("199 is", x.assemble(false), 199);
    }

    static void clearTakesThePlaces() {
        DrumMachine x = new DrumMachine();
        x.line(S, 0, S + 19, 5);
        x.assemble(false);
        Due.same("place(19) before", x.place(19), 1);
        x.clear();
        for (int symbol = 0; symbol < 20; symbol++) {
            Due.same("place(" + symbol + ")", x.place(symbol), -1);
        }
    }

    static void clearLeavesTheMachine() {
        DrumMachine x = Bench.holding(1, 2, true, 3, false);
        x.card(5, false);
        x.flip(77, 0, 0);
        String before = Bench.stateOf(x);
        x.clear();
        Due.same("the state", Bench.stateOf(x), before);
        Due.same("the card", x.card(6, false), 2);
    }

    static void placeOfTheFirstAndTheLastSymbol() {
        DrumMachine x = new DrumMachine();
        x.line(S, 0, S + 19, 5);
        x.assemble(false);
        Due.same("place(0)", x.place(0), 0);
        Due.same("place(19)", x.place(19), 1);
    }

    static void placeBelowTheFirstSymbol() {
        DrumMachine x = new DrumMachine();
        Due.refused("place(-1)", INDEX, () -> x.place(-1));
        Due.refused("place(least)", INDEX, () -> x.place(Integer.MIN_VALUE));
    }

    static void placeBehindTheLastSymbol() {
        DrumMachine x = new DrumMachine();
        Due.refused("place(20)", INDEX, () -> x.place(20));
        Due.refused("place(1000)", INDEX, () -> x.place(1000));
        Due.refused("place(most)", INDEX, () -> x.place(Integer.MAX_VALUE));
    }

    static void placeBeforeItIsAssembled() {
        DrumMachine x = new DrumMachine();
        x.line(S, 0, S + 1, S + 2);
        for (int symbol = 0; symbol < 20; symbol++) {
            Due.same("place(" + symbol + ")", x.place(symbol), -1);
        }
    }

    static void placeOfASymbolInNoLine() {
        DrumMachine x = new DrumMachine();
        x.line(S, 0, S + 1, S + 2);
        x.assemble(false);
        Due.same("place(3)", x.place(3), -1);
    }

    static void placeStaysWhenLinesAreAdded() {
        DrumMachine x = new DrumMachine();
        x.line(S, 0, 5, 5);
        x.assemble(false);
        x.line(0, 0, S + 1, 5);
        Due.same("place(0)", x.place(0), 0);
        Due.same("place(1)", x.place(1), -1);
    }
}
