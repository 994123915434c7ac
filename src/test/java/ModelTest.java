import java.util.function.Supplier;

/** All promises: long runs of calls, the same in every run of the test, answered by the program and by Model. */
final class ModelTest {
    private static final int RUNS = 300;
    private static final int CALLS = 512;
    private static final int[] OPERATIONS = {
        0, 1, 10, 11, 15, 16, 60, 61, 65, 66, 67, 69, 19, 14, 84, 20, 21, 22, 24, 70, 71, 30, 35, 31,
        44, 45, 46, 47, 90, 91, 92, 93, 94, 95, 96, 97, 98, 99};

    private static long seed;
    private static final int[] faultsSeen = new int[7];
    private static final int[] operationsDone = new int[100];
    private static int assembled = 0;
    private static int assembleFailed = 0;

    public static void main(String[] args) {
        for (int run = 0; run < RUNS && Due.wrongSoFar() == 0; run++) {
            seed = run * 7919L + 17;
            compareRun(run);
        }
        for (int fault = 0; fault < 7; fault++) {
            Due.same("fault " + (fault - 1) + " was often seen", faultsSeen[fault] > 50, true);
        }
        for (int operation : OPERATIONS) {
            Due.same("operation " + operation + " was often done", operationsDone[operation] > 50, true);
        }
        Due.same("assembled often", assembled > 500, true);
        Due.same("failed to assemble often", assembleFailed > 50, true);
        Due.end();
    }

    private static int below(int bound) {
        seed = seed * 6364136223846793005L + 1442695040888963407L;
        return (int) ((seed >>> 33) % bound);
    }

    private static boolean oneIn(int bound) {
        return below(bound) == 0;
    }

    private static void compareRun(int run) {
        DrumMachine x = new DrumMachine();
        Model m = new Model();
        boolean mostlyAssembler = run % 3 == 0;
        for (int call = 0; call < CALLS && Due.wrongSoFar() == 0; call++) {
            String where = "run " + run + ", call " + call + ": ";
            if (mostlyAssembler ? !oneIn(4) : oneIn(12)) {
                assemblerCall(where, x, m, run % 2 == 0);
            } else {
                machineCall(where, x, m);
            }
            sameState(where, x, m);
            if (call % 64 == 63) {
                sameDrum(where, x, m);
            }
        }
        sameDrum("run " + run + ", at the end: ", x, m);
    }

    private static void compare(String what, Supplier<Object> program, Supplier<Object> model) {
        Due.same(what, answer(program), answer(model));
    }

    private static String answer(Supplier<Object> call) {
        try {
            return String.valueOf(call.get());
        } catch (RuntimeException e) {
            return "throws." + e.getClass().getSimpleName();
        }
    }

    private static int anAddress() {
        return oneIn(40) ? below(2) * 201 - 1 : oneIn(3) ? below(200) : below(24);
    }

    private static long aValue() {
        switch (below(8)) {
            case 0:
                return 9999999999L - below(3);
            case 1:
                return below(10);
            case 2:
                return oneIn(10) ? 10000000000L : 8888888888L;
            case 3:
                return oneIn(10) ? -1 : 0;
            case 4:
                return below(100000) * 100000L + below(100000);
            default:
                return anInstruction();
        }
    }

    private static long anInstruction() {
        int operation = oneIn(60) ? below(100) : OPERATIONS[below(OPERATIONS.length)];
        // Branches and STOP would else be most of what is done.
        if (operation >= 90 && oneIn(2)) {
            operation = 60 + below(2) * 5;
        }
        int data = oneIn(80) ? below(10000) : oneIn(3) ? below(200) : below(24);
        int next = oneIn(120) ? below(10000) : below(24);
        return operation * 100000000L + data * 10000L + next;
    }

    private static void machineCall(String where, DrumMachine x, Model m) {
        int kind = below(20);
        if (kind < 7) {
            writeWord(where, x, m);
        } else if (kind == 7) {
            flipBit(where, x, m);
        } else if (kind == 8) {
            long value = aValue();
            boolean minus = oneIn(2);
            compare(where + "card " + value, () -> x.card(value, minus), () -> m.card(value, minus));
        } else if (kind < 12 || m.fault != -1 && kind < 16) {
            int address = oneIn(50) ? below(10100) - 50 : below(24);
            compare(where + "start " + address, () -> done(() -> x.start(address)), () -> done(() -> m.start(address)));
        } else {
            runSome(where, x, m);
        }
    }

    private static String done(Runnable call) {
        call.run();
        return "done";
    }

    private static void writeWord(String where, DrumMachine x, Model m) {
        int address = anAddress();
        long value = oneIn(2) ? anInstruction() : aValue();
        boolean minus = oneIn(3);
        compare(where + "word " + address + " " + value, () -> done(() -> x.word(address, value, minus)),
                () -> done(() -> m.word(address, value, minus)));
    }

    private static void flipBit(String where, DrumMachine x, Model m) {
        int address = anAddress();
        int digit = oneIn(30) ? below(14) - 2 : below(10);
        int bit = oneIn(30) ? below(11) - 2 : below(7);
        compare(where + "flip " + address + " " + digit + " " + bit, () -> x.flip(address, digit, bit),
                () -> m.flip(address, digit, bit));
        if (oneIn(2)) {
            compare(where + "flip back", () -> x.flip(address, digit, bit), () -> m.flip(address, digit, bit));
        }
    }

    private static void runSome(String where, DrumMachine x, Model m) {
        int steps = oneIn(30) ? below(320) - 10 : oneIn(20) ? 300 : oneIn(2) ? 1 : below(5);
        int from = m.next;
        long word = from < 200 ? m.get(from) : 0;
        int before = m.fault;
        compare(where + "run " + steps, () -> x.run(steps), () -> m.run(steps));
        if (before == -1 && steps > 0) {
            faultsSeen[m.fault + 1]++;
            if (steps == 1 && m.fault < 1 && from < 200) {
                operationsDone[(int) (Math.abs(word) / 100000000L)]++;
            }
        }
    }

    private static int aPart() {
        switch (below(16)) {
            case 0:
            case 1:
            case 2:
                return below(200);
            case 3:
                return below(10);
            case 4:
            case 5:
            case 6:
            case 7:
            case 8:
                return 1000 + below(20);
            case 9:
                return oneIn(20) ? -2 : oneIn(20) ? 200 : oneIn(20) ? 1020 : oneIn(20) ? 999 : 1000;
            default:
                return -1;
        }
    }

    private static void assemblerCall(String where, DrumMachine x, Model m, boolean crowded) {
        int kind = below(40);
        if (kind < 20) {
            int location = aPart();
            int operation = oneIn(40) ? below(110) - 5 : OPERATIONS[below(OPERATIONS.length)];
            boolean shift = operation == 30 || operation == 31 || operation == 35;
            int data = shift && !oneIn(20) ? below(11) - 1 : aPart();
            int next = aPart();
            compare(where + "line " + location + " " + operation + " " + data + " " + next,
                    () -> x.line(location, operation, data, next), () -> m.line(location, operation, data, next));
        } else if (kind < 24) {
            int address = oneIn(30) ? below(300) - 50 : below(200);
            compare(where + "reserve " + address, () -> done(() -> x.reserve(address)),
                    () -> done(() -> m.reserve(address)));
        } else if (kind == 24) {
            if (crowded && oneIn(2)) {
                reserveMost(x, m);
            }
        } else if (kind == 25 || kind == 26 && m.lines.size() > 10) {
            x.clear();
            m.clear();
        } else {
            assembleBoth(where, x, m);
        }
    }

    private static void reserveMost(DrumMachine x, Model m) {
        for (int address = 0; address < 200; address++) {
            if (!oneIn(12)) {
                x.reserve(address);
                m.reserve(address);
            }
        }
    }

    private static void assembleBoth(String where, DrumMachine x, Model m) {
        boolean optimum = oneIn(2);
        String due = answer(() -> m.assemble(optimum));
        Due.same(where + "assemble " + optimum, answer(() -> x.assemble(optimum)), due);
        assembled += due.startsWith("throws") ? 0 : 1;
        assembleFailed += due.equals("throws.UnsupportedOperationException") ? 1 : 0;
        sameDrum(where + "assembled: ", x, m);
        if (oneIn(3) && m.fault != -1 && !due.startsWith("throws")) {
            x.start(Integer.parseInt(due));
            m.start(Integer.parseInt(due));
        }
    }

    private static void sameState(String where, DrumMachine x, Model m) {
        Due.same(where + "time", x.time(), m.time);
        Due.same(where + "fault", x.fault(), m.fault);
        Due.same(where + "next", x.next(), m.next);
        Due.same(where + "outputs", x.outputs(), m.output.size());
        for (int which = 0; which < 3; which++) {
            Due.same(where + "register " + which, x.register(which), m.register(which));
            Due.same(where + "sign " + which, x.sign(which), m.sign(which));
        }
        for (int symbol = 0; symbol < 20; symbol++) {
            Due.same(where + "place " + symbol, x.place(symbol), m.place(symbol));
        }
    }

    private static void sameDrum(String where, DrumMachine x, Model m) {
        for (int address = 0; address < 200; address++) {
            Due.same(where + "get " + address, x.get(address), m.get(address));
        }
        for (int i = 0; i < m.output.size(); i++) {
            Due.same(where + "output " + i, x.output(i), m.output(i));
        }
    }
}
