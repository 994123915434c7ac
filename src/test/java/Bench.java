/** Machines made ready for a test, and what can be asked of them. */
final class Bench {
    static final long MOST = 9999999999L;
    static final long NOT_VALID = -10000000000L;

    /** Where step() puts its instruction; an address at the angle behind it needs no waiting. */
    static final int HERE = 10;
    static final int BEHIND = 61;
    static final int THEN = 22;

    static final int[] READING = {10, 11, 14, 15, 16, 19, 60, 61, 65, 66, 67, 69, 71, 84};
    static final int[] WRITING = {20, 21, 22, 24, 70};
    static final int[] WITHOUT_ACCESS =
        {0, 1, 30, 31, 35, 44, 45, 46, 47, 90, 91, 92, 93, 94, 95, 96, 97, 98, 99};

    private Bench() {
    }

    static boolean hasOperation(int operation) {
        return isOneOf(READING, operation) || isOneOf(WRITING, operation) || isOneOf(WITHOUT_ACCESS, operation);
    }

    private static boolean isOneOf(int[] numbers, int number) {
        for (int one : numbers) {
            if (one == number) {
                return true;
            }
        }
        return false;
    }

    static long instruction(int operation, int data, int next) {
        return operation * 100000000L + data * 10000L + next;
    }

    /** A running machine with NEXT at HERE and this accumulator (with a sign) and distributor. */
    static DrumMachine holding(long upper, long lower, boolean minus, long distributor, boolean itsMinus) {
        DrumMachine x = new DrumMachine();
        x.word(0, instruction(60, 100, 1), false);
        x.word(1, instruction(15, 101, 2), false);
        x.word(2, instruction(69, 102, HERE), false);
        x.word(100, upper, minus);
        x.word(101, lower, minus);
        x.word(102, distributor, itsMinus);
        x.start(0);
        x.run(3);
        return x;
    }

    static DrumMachine holdingNothing() {
        return holding(0, 0, false, 0, false);
    }

    /** As holding(), with overflow on. */
    static DrumMachine overflowing(long upper, long lower) {
        DrumMachine x = holding(MOST, lower, false, 0, false);
        x.word(BEHIND, upper + 1, false);
        step(x, 10, BEHIND);
        x.word(BEHIND, 0, false);
        return x;
    }

    /** One step from HERE on; answers its time without the waiting for its instruction. */
    static long step(DrumMachine x, int operation, int data) {
        x.word(HERE, instruction(operation, data, THEN), false);
        return stepThatStands(x);
    }

    /** The same with the instruction that stands at HERE. */
    static long stepThatStands(DrumMachine x) {
        x.start(HERE);
        long waiting = (HERE - x.time() % 50 + 50) % 50;
        long before = x.time() + waiting;
        x.run(1);
        return x.time() - before;
    }

    static void holds(DrumMachine x, long upper, long lower, boolean minus) {
        Due.same("upper", x.register(0), upper);
        Due.same("lower", x.register(1), lower);
        Due.same("the accumulator is minus", x.sign(0), minus);
    }

    static void distributes(DrumMachine x, long value, boolean minus) {
        Due.same("distributor", x.register(2), value);
        Due.same("the distributor is minus", x.sign(1), minus);
    }

    static void overflows(DrumMachine x, boolean want) {
        Due.same("overflow", x.sign(2), want);
    }

    /** The step at HERE faulted so, and NEXT is still its address. */
    static void faulted(DrumMachine x, int fault) {
        Due.same("fault", x.fault(), fault);
        Due.same("NEXT after the fault", x.next(), HERE);
    }

    static void goesOn(DrumMachine x) {
        Due.same("fault", x.fault(), -1);
        Due.same("NEXT", x.next(), THEN);
    }

    /** All that can be asked without changing something. */
    static String stateOf(DrumMachine x) {
        StringBuilder text = new StringBuilder(withoutTime(x));
        return text.append(" time ").append(x.time()).append(" fault ").append(x.fault()).toString();
    }

    /** What a fault has to leave as it was. */
    static String withoutTime(DrumMachine x) {
        StringBuilder text = new StringBuilder();
        text.append("next ").append(x.next()).append(" output");
        for (int i = 0; i < x.outputs(); i++) {
            text.append(' ').append(x.output(i));
        }
        for (int which = 0; which < 3; which++) {
            text.append(" register ").append(x.register(which)).append(" sign ").append(x.sign(which));
        }
        for (int symbol = 0; symbol < 20; symbol++) {
            text.append(" place ").append(x.place(symbol));
        }
        for (int address = 0; address < 200; address++) {
            text.append(" word ").append(x.get(address));
        }
        return text.toString();
    }
}
