/**
 * Promises 10 (start), 11 (run), 12 (fault), 13 (time), 14 (register), 15 (sign) and 16 (next): steps, every
 * operation, every fault, and the time of each.
 */
final class StepsTest {
    private static final long MOST = 9999999999L;

    public static void main(String[] args) {
        starts();
        runs();
        wrongRegisters();
        waiting();
        operationsThatAreNone();
        addsAndSubtracts();
        signOfZero();
        overflows();
        loads();
        multiplies();
        divides();
        divisionsThatStop();
        looksUp();
        lookUpFaults();
        stores();
        storesDataAddress();
        shifts();
        rounds();
        branches();
        branchesOnEight();
        faultsLeaveAllAsItWas();
        addressesThatAreNone();
        Due.end();
    }

    /** A machine that has the accumulator upper, lower (with a sign), and the distributor as given, at address 10. */
    private static DrumMachine holding(long upper, long lower, boolean minus, long distributor, boolean itsMinus) {
        DrumMachine x = new DrumMachine();
        x.word(0, 6001000001L, false);
        x.word(1, 1501010002L, false);
        x.word(2, 6901020010L, false);
        x.word(100, upper, minus);
        x.word(101, lower, minus);
        x.word(102, distributor, itsMinus);
        x.start(0);
        x.run(3);
        return x;
    }

    private static long oneStep(DrumMachine x, long instruction) {
        x.word(10, instruction, false);
        x.start(10);
        // Waiting for address 10 is taken off, so that the answer is the step's own time.
        long waiting = (10 - x.time() % 50 + 50) % 50;
        long before = x.time() + waiting;
        x.run(1);
        return x.time() - before;
    }

    private static void holds(String what, DrumMachine x, long upper, long lower, boolean minus) {
        Due.same(what + ": upper", x.register(0), upper);
        Due.same(what + ": lower", x.register(1), lower);
        Due.same(what + ": sign", x.sign(0), minus);
    }

    private static void distributes(String what, DrumMachine x, long value, boolean minus) {
        Due.same(what + ": distributor", x.register(2), value);
        Due.same(what + ": its sign", x.sign(1), minus);
    }

    private static void starts() {
        DrumMachine x = new DrumMachine();
        Due.refused("start(-1)", IllegalArgumentException.class, () -> x.start(-1));
        Due.refused("start(10000)", IllegalArgumentException.class, () -> x.start(10000));
        Due.same("a refused start leaves the machine stopped", x.fault(), 0);
        x.start(9999);
        Due.same("not stopped", x.fault(), -1);
        Due.same("next is 9999", x.next(), 9999);
        Due.same("start takes no time", x.time(), 0);
        Due.same("run from there", x.run(1), 0);
        Due.same("no such address", x.fault(), 2);
        Due.same("no time goes by", x.time(), 0);
        Due.same("next stays", x.next(), 9999);
        x.start(0);
        Due.same("it goes on after a fault", x.run(1), 1);
        x.start(199);
        Due.same("start while it is not stopped", x.next(), 199);
        Due.same("the last address can be run", x.run(1), 1);
        x.start(200);
        Due.same("run from 200", x.run(1), 0);
        Due.same("fault of 200", x.fault(), 2);
    }

    private static void runs() {
        DrumMachine x = new DrumMachine();
        Due.refused("run(-1)", IllegalArgumentException.class, () -> x.run(-1));
        Due.refused("run(301) of a stopped one", IllegalArgumentException.class, () -> x.run(301));
        Due.refused("run(300) of a stopped one", IllegalStateException.class, () -> x.run(300));
        x.word(0, 1, false);
        x.word(1, 2, true);
        x.word(2, 100000077L, false);
        x.start(0);
        Due.refused("run(301)", IllegalArgumentException.class, () -> x.run(301));
        Due.same("run(0)", x.run(0), 0);
        Due.same("no time", x.time(), 0);
        Due.same("run(1)", x.run(1), 1);
        Due.same("next", x.next(), 1);
        Due.same("the sign of an instruction is of no matter", x.run(1), 1);
        Due.same("fault before STOP", x.fault(), -1);
        Due.same("STOP counts", x.run(9), 1);
        Due.same("fault after STOP", x.fault(), 0);
        Due.same("time after STOP", x.time(), 3);
        Due.same("NEXT is I after STOP", x.next(), 77);
        Due.refused("run after STOP", IllegalStateException.class, () -> x.run(0));
        x.word(77, 77, false);
        x.start(77);
        Due.same("run(300)", x.run(300), 300);
        Due.same("it still runs", x.fault(), -1);
    }

    private static void wrongRegisters() {
        DrumMachine x = new DrumMachine();
        Due.refused("register(-1)", IndexOutOfBoundsException.class, () -> x.register(-1));
        Due.refused("register(3)", IndexOutOfBoundsException.class, () -> x.register(3));
        Due.refused("sign(-1)", IndexOutOfBoundsException.class, () -> x.sign(-1));
        Due.refused("sign(3)", IndexOutOfBoundsException.class, () -> x.sign(3));
    }

    private static void waiting() {
        DrumMachine x = new DrumMachine();
        x.word(49, 199, false);
        x.word(199, 150, false);
        x.word(150, 6901010100L, false);
        x.word(100, 6901000049L, false);
        x.start(49);
        x.run(1);
        Due.same("waits 49, accesses", x.time(), 50);
        x.run(1);
        Due.same("the same angle again", x.time(), 100);
        x.run(1);
        Due.same("no waiting at all", x.time(), 102);
        x.run(1);
        Due.same("D at the instruction's own angle", x.time(), 201);
    }

    private static void operationsThatAreNone() {
        String known = " 0 1 10 11 14 15 16 19 20 21 22 24 30 31 35 44 45 46 47 60 61 65 66 67 69 70 71 84"
                + " 90 91 92 93 94 95 96 97 98 99 ";
        for (int operation = 0; operation < 100; operation++) {
            DrumMachine x = holding(0, 0, false, 0, false);
            x.card(0, false);
            x.word(20, 5, false);
            x.word(10, operation * 100000000L + 200030L, false);
            long before = x.time();
            boolean has = known.contains(" " + operation + " ");
            Due.same("operation " + operation + " is done", x.run(1), has ? 1 : 0);
            int fault = operation == 1 ? 0 : has ? -1 : 2;
            Due.same("operation " + operation + " faults", x.fault(), fault);
            if (!has) {
                Due.same("it takes only the instruction's access", x.time() - before, 8);
                Due.same("NEXT is the instruction", x.next(), 10);
            }
        }
    }

    private static void addsAndSubtracts() {
        int[] operations = {10, 11, 15, 16, 60, 61, 65, 66, 67};
        long[][] dueForPlus = {
            {12, 5, 0}, {8, 5, 0}, {10, 7, 0}, {10, 3, 0}, {2, 0, 0}, {2, 0, 1}, {0, 2, 0}, {0, 2, 1}, {0, 2, 0}};
        long[][] dueForMinus = {
            {8, 5, 0}, {12, 5, 0}, {10, 3, 0}, {10, 7, 0}, {2, 0, 1}, {2, 0, 0}, {0, 2, 1}, {0, 2, 0}, {0, 2, 0}};
        for (int i = 0; i < operations.length; i++) {
            for (int sign = 0; sign < 2; sign++) {
                DrumMachine x = holding(10, 5, false, 1, false);
                x.word(61, 2, sign == 1);
                String what = "operation " + operations[i] + (sign == 1 ? " with -2" : " with 2");
                Due.same(what + ": time", oneStep(x, operations[i] * 100000000L + 610033L), 4);
                long[] due = sign == 1 ? dueForMinus[i] : dueForPlus[i];
                holds(what, x, due[0], due[1], due[2] == 1);
                distributes(what, x, 2, sign == 1);
                Due.same(what + ": next", x.next(), 33);
                Due.same(what + ": overflow", x.sign(2), false);
            }
        }
        carries();
    }

    private static void carries() {
        DrumMachine x = holding(0, MOST, false, 0, false);
        x.word(11, 1, false);
        oneStep(x, 1500110000L);
        holds("a carry", x, 1, 0, false);
        oneStep(x, 1600110000L);
        holds("a borrow", x, 0, MOST, false);
        x = holding(3, 4, false, 0, false);
        x.word(11, 4, false);
        oneStep(x, 1100110000L);
        holds("through zero, with a borrow", x, 0, 9999999996L, true);
        x.word(11, MOST, true);
        oneStep(x, 1600110000L);
        holds("and back", x, 0, 3, false);
        x = holding(0, 4, true, 0, false);
        x.word(11, 9, false);
        oneStep(x, 1500110000L);
        holds("lower through zero", x, 0, 5, false);
    }

    private static void signOfZero() {
        DrumMachine x = holding(0, 5, true, 0, false);
        x.word(11, 5, false);
        oneStep(x, 1500110000L);
        holds("-5 + 5", x, 0, 0, true);
        x.word(11, 0, false);
        oneStep(x, 1500110000L);
        holds("-0 + 0", x, 0, 0, true);
        oneStep(x, 1600110000L);
        holds("-0 - 0", x, 0, 0, true);
        x.word(11, 0, true);
        oneStep(x, 6500110000L);
        holds("reset, add -0", x, 0, 0, false);
        oneStep(x, 1500110000L);
        holds("0 + -0", x, 0, 0, false);
        x.word(11, 0, false);
        oneStep(x, 6600110000L);
        holds("reset, subtract 0", x, 0, 0, false);
        x = holding(0, 5, false, 0, false);
        x.word(11, 5, false);
        oneStep(x, 1600110000L);
        holds("5 - 5", x, 0, 0, false);
        x.word(11, 6, false);
        oneStep(x, 1600110000L);
        holds("0 - 6", x, 0, 6, true);
    }

    private static void overflows() {
        DrumMachine x = holding(MOST, MOST, true, 0, false);
        x.word(11, 1, true);
        oneStep(x, 1500110000L);
        holds("over by one", x, 0, 0, true);
        Due.same("overflow is on", x.sign(2), true);
        x.word(11, 3, true);
        oneStep(x, 1500110000L);
        Due.same("overflow stays on", x.sign(2), true);
        oneStep(x, 6500110000L);
        Due.same("and with a reset", x.sign(2), true);
        x = holding(MOST, 7, false, 0, false);
        x.word(11, 3, false);
        oneStep(x, 1000110000L);
        holds("upper over", x, 2, 7, false);
        Due.same("overflow by the upper", x.sign(2), true);
        x = holding(MOST, 7, false, 0, false);
        x.word(11, MOST, false);
        oneStep(x, 1100110000L);
        holds("no overflow by taking away", x, 0, 7, false);
        Due.same("overflow is off", x.sign(2), false);
    }

    private static void loads() {
        DrumMachine x = holding(1, 2, true, 3, false);
        x.word(61, 4, true);
        Due.same("LOAD: time", oneStep(x, 6900610000L), 2);
        holds("LOAD", x, 1, 2, true);
        distributes("LOAD", x, 4, true);
    }

    private static void multiplies() {
        DrumMachine x = holding(MOST, MOST, false, 0, false);
        x.word(61, MOST, true);
        Due.same("MULTIPLY the most: time", oneStep(x, 1900610000L), 2 + 20 + 180);
        holds("MULTIPLY the most", x, MOST, 0, true);
        distributes("MULTIPLY", x, MOST, true);
        Due.same("no overflow", x.sign(2), false);
        x = holding(12, 50, true, 0, false);
        x.word(61, 7, true);
        Due.same("MULTIPLY: time", oneStep(x, 1900610000L), 2 + 20 + 6);
        holds("-12 x -7, and 50", x, 0, 134, false);
        x = holding(1234567890, 1, true, 0, false);
        x.word(61, 9876543210L, false);
        Due.same("MULTIPLY long ones: time", oneStep(x, 1900610000L), 2 + 20 + 90);
        holds("long ones", x, 1219326311, 1263526901L, true);
        x = holding(0, 9, false, 0, false);
        x.word(61, 5, true);
        Due.same("MULTIPLY of 0: time", oneStep(x, 1900610000L), 22);
        holds("0 x -5, and 9", x, 0, 9, true);
    }

    private static void divides() {
        DrumMachine x = holding(0, 100, true, 0, false);
        x.word(61, 7, false);
        Due.same("DIVIDE: time", oneStep(x, 1400610000L), 2 + 20 + 2 * 5);
        holds("-100 / 7", x, 2, 14, true);
        distributes("DIVIDE", x, 7, false);
        x = holding(9999999998L, MOST, true, 0, false);
        x.word(61, MOST, true);
        Due.same("DIVIDE the most: time", oneStep(x, 1400610000L), 2 + 20 + 180);
        holds("DIVIDE the most", x, 9999999998L, MOST, false);
        Due.same("no overflow", x.sign(2), false);
        x = holding(0, 3, false, 0, false);
        x.word(61, 5, true);
        Due.same("DIVIDE with quotient 0: time", oneStep(x, 1400610000L), 22);
        holds("3 / -5", x, 3, 0, true);
        x = holding(0, MOST, true, 0, false);
        x.word(61, 1, true);
        oneStep(x, 1400610000L);
        holds("DIVIDE by 1", x, 0, MOST, false);
        Due.same("DIVIDE by 1: fault", x.fault(), -1);
    }

    private static void divisionsThatStop() {
        long[] words = {0, 4, 5};
        for (long word : words) {
            DrumMachine x = holding(5, 6, true, 9, true);
            x.word(61, word, true);
            String what = "5.. / " + word;
            Due.same(what + ": time", oneStep(x, 1400610000L), 2);
            Due.same(what + ": fault", x.fault(), 3);
            Due.same(what + ": overflow", x.sign(2), true);
            Due.same(what + ": next", x.next(), 10);
            holds(what, x, 5, 6, true);
            distributes(what, x, 9, true);
            x.word(10, 4700880099L, false);
            x.start(10);
            x.run(1);
            Due.same(what + ": a branch on that overflow", x.next(), 88);
        }
        DrumMachine x = holding(0, 0, false, 9, true);
        x.word(61, 0, false);
        oneStep(x, 1400610000L);
        Due.same("0 / 0: fault", x.fault(), 3);
    }

    private static void looksUp() {
        DrumMachine x = holding(1, 9876543210L, true, 50, true);
        long[] table = {49, 10, 50, 51};
        for (int i = 0; i < table.length; i++) {
            x.word(61 + i, table[i], i % 2 == 0);
        }
        Due.same("LOOK UP the third: time", oneStep(x, 8400610022L), 4);
        holds("LOOK UP", x, 1, 9800633210L, true);
        distributes("LOOK UP", x, 50, true);
        Due.same("LOOK UP: next", x.next(), 22);
        Due.same("LOOK UP the first: time", oneStep(x, 8400640022L), 2 + 3);
        holds("LOOK UP the first", x, 1, 9800643210L, true);
        x = holding(0, 0, false, 7, false);
        x.word(199, 8, false);
        x.word(150, 6, false);
        Due.same("LOOK UP to the end of the drum: time", oneStep(x, 8401500022L), 41 + 49);
        holds("LOOK UP at the end", x, 0, 1990000, false);
        x.word(99, 7, false);
        Due.same("LOOK UP of the last of its fifty: time", oneStep(x, 8400990022L), 40);
        holds("LOOK UP of one word", x, 0, 990000, false);
    }

    private static void lookUpFaults() {
        DrumMachine x = holding(0, 5, false, 7, true);
        x.word(100, 9, false);
        Due.same("none in its fifty: time", oneStep(x, 8400510022L), 42 + 48);
        Due.same("none in its fifty: fault", x.fault(), 5);
        Due.same("none in its fifty: next", x.next(), 10);
        holds("none in its fifty", x, 0, 5, false);
        distributes("none in its fifty", x, 7, true);
        x.word(64, 8, false);
        x.flip(63, 9, 6);
        Due.same("an invalid word before it: time", oneStep(x, 8400610022L), 4);
        Due.same("an invalid word before it: fault", x.fault(), 1);
        Due.same("an invalid first word: time", oneStep(x, 8400630022L), 4);
        Due.same("an invalid first word: fault", x.fault(), 1);
        x.word(63, 7, false);
        x.flip(64, 0, 0);
        oneStep(x, 8400610022L);
        Due.same("an invalid word behind it is not looked at", x.fault(), -1);
        holds("the one before", x, 0, 630005, false);
        Due.same("none in one word: time", oneStep(x, 8401990022L), 40);
        Due.same("none in one word: fault", x.fault(), 5);
    }

    private static void stores() {
        DrumMachine x = holding(11, 22, true, 33, false);
        x.flip(61, 0, 0);
        Due.same("STORE LOWER: time", oneStep(x, 2000610022L), 2);
        Due.same("STORE LOWER over an invalid word", x.get(61), -22);
        distributes("STORE LOWER", x, 22, true);
        Due.same("STORE LOWER: next", x.next(), 22);
        x.word(62, 1, false);
        Due.same("STORE UPPER: time", oneStep(x, 2100620022L), 3);
        Due.same("STORE UPPER", x.get(62), -11);
        distributes("STORE UPPER", x, 11, true);
        holds("stores leave the accumulator", x, 11, 22, true);
        x = holding(11, 22, true, 33, false);
        Due.same("STORE DISTRIBUTOR: time", oneStep(x, 2400610022L), 2);
        Due.same("STORE DISTRIBUTOR", x.get(61), 33);
        distributes("STORE DISTRIBUTOR", x, 33, false);
        x = holding(0, 0, false, 0, true);
        oneStep(x, 2400610022L);
        oneStep(x, 6900620022L);
        oneStep(x, 6900610022L);
        distributes("a minus zero that was stored", x, 0, true);
    }

    private static void storesDataAddress() {
        DrumMachine x = holding(5, 1234567890L, false, 9876543210L, true);
        x.flip(61, 0, 0);
        Due.same("STORE DATA ADDRESS: time", oneStep(x, 2200610022L), 2);
        Due.same("STORE DATA ADDRESS", x.get(61), -9834563210L);
        distributes("STORE DATA ADDRESS", x, 9834563210L, true);
        holds("STORE DATA ADDRESS", x, 5, 1234567890L, false);
    }

    private static void shifts() {
        DrumMachine x = holding(1234567890L, 9876543215L, true, 8, false);
        Due.same("SHIFT RIGHT by 0: time", oneStep(x, 3001000022L), 1);
        holds("SHIFT RIGHT by 0", x, 1234567890L, 9876543215L, true);
        Due.same("SHIFT RIGHT by 3: time", oneStep(x, 3099930022L), 4);
        holds("SHIFT RIGHT by 3", x, 1234567L, 8909876543L, true);
        Due.same("SHIFT RIGHT by 9: time", oneStep(x, 3000090022L), 10);
        holds("SHIFT RIGHT by 9", x, 0, 12345678L, true);
        oneStep(x, 3000090022L);
        holds("SHIFT RIGHT to nothing keeps the sign", x, 0, 0, true);
        x = holding(1234567890L, 9876543215L, true, 8, false);
        Due.same("SHIFT LEFT by 0: time", oneStep(x, 3500000022L), 1);
        holds("SHIFT LEFT by 0", x, 1234567890L, 9876543215L, true);
        Due.same("SHIFT LEFT by 4: time", oneStep(x, 3500040022L), 5);
        holds("SHIFT LEFT by 4", x, 5678909876L, 5432150000L, true);
        Due.same("SHIFT LEFT by 9: time", oneStep(x, 3512390022L), 10);
        holds("SHIFT LEFT by 9", x, 6543215000L, 0, true);
        Due.same("what is lost is no overflow", x.sign(2), false);
        distributes("shifts", x, 8, false);
        Due.same("shifts: next", x.next(), 22);
    }

    private static void rounds() {
        DrumMachine x = holding(1234567890L, 9876543215L, true, 8, false);
        Due.same("ROUND by 1: time", oneStep(x, 3100010022L), 3);
        holds("ROUND by 1, up", x, 123456789L, 987654322L, true);
        Due.same("ROUND by 4: time", oneStep(x, 3199940022L), 6);
        holds("ROUND by 4, down", x, 12345L, 6789098765L, true);
        Due.same("ROUND by 10: time", oneStep(x, 3100200022L), 12);
        holds("ROUND by 10, up", x, 0, 12346L, true);
        x = holding(MOST, 4999999999L, false, 8, false);
        oneStep(x, 3100000022L);
        holds("ROUND by 10, down", x, 0, MOST, false);
        x = holding(MOST, 5000000000L, false, 8, false);
        oneStep(x, 3100000022L);
        holds("ROUND by 10 with a carry", x, 1, 0, false);
        Due.same("no overflow", x.sign(2), false);
        x = holding(0, 5, true, 8, false);
        oneStep(x, 3100020022L);
        holds("ROUND looks at the last digit lost alone", x, 0, 0, true);
    }

    private static void branches() {
        branch("44 with an upper", holding(1, 0, false, 0, false), 44, true);
        branch("44 with a lower alone", holding(0, 1, false, 0, false), 44, false);
        branch("45 with an upper", holding(1, 0, false, 0, false), 45, true);
        branch("45 with a lower", holding(0, 1, false, 0, false), 45, true);
        branch("45 with nothing", holding(0, 0, false, 0, false), 45, false);
        branch("46 with plus", holding(0, 1, false, 0, true), 46, false);
        branch("46 with minus", holding(0, 1, true, 0, false), 46, true);
        DrumMachine zero = holding(0, 1, true, 0, false);
        oneStep(zero, 3000010000L);
        branch("46 with minus zero", zero, 46, true);
        branch("47 without overflow", holding(1, 1, true, 8, true), 47, false);
        DrumMachine over = holding(MOST, 0, false, 0, false);
        over.word(11, 1, false);
        oneStep(over, 1000110000L);
        Due.same("overflow is on", over.sign(2), true);
        branch("46 leaves overflow", over, 46, false);
        Due.same("overflow is still on", over.sign(2), true);
        branch("47 with overflow", over, 47, true);
        Due.same("overflow is off then", over.sign(2), false);
        branch("47 again", over, 47, false);
    }

    private static void branch(String what, DrumMachine x, int operation, boolean taken) {
        Due.same(what + ": time", oneStep(x, operation * 100000000L + 50001234L), 1);
        Due.same(what + ": next", x.next(), taken ? 5000 : 1234);
        Due.same(what + ": fault", x.fault(), -1);
        long time = x.time();
        Due.same(what + ": the step behind", x.run(1), 0);
        Due.same(what + ": its fault", x.fault(), 2);
        Due.same(what + ": its time", x.time(), time);
    }

    private static void branchesOnEight() {
        for (int digit = 0; digit < 10; digit++) {
            long unit = 1;
            for (int i = 0; i < digit; i++) {
                unit *= 10;
            }
            branch("8 at " + digit, holding(0, 0, false, 8 * unit, true), 90 + digit, true);
            branch("9 at " + digit, holding(8, 8, true, 9 * unit, false), 90 + digit, false);
            branch("all but 8 at " + digit, holding(0, 0, false, 8888888888L - 8 * unit, false), 90 + digit, false);
        }
    }

    /** Every operation that reads, with an invalid word. */
    private static void faultsLeaveAllAsItWas() {
        int[] reading = {10, 11, 14, 15, 16, 19, 60, 61, 65, 66, 67, 69, 71, 84};
        for (int operation : reading) {
            DrumMachine x = holding(3, 4, true, 5, true);
            x.word(61, 6, false);
            x.flip(61, 9, 4);
            String what = "operation " + operation + " with an invalid word";
            Due.same(what + ": time", oneStep(x, operation * 100000000L + 610022L), 2);
            Due.same(what + ": fault", x.fault(), 1);
            Due.same(what + ": next", x.next(), 10);
            holds(what, x, 3, 4, true);
            distributes(what, x, 5, true);
            Due.same(what + ": overflow", x.sign(2), false);
            Due.same(what + ": output", x.outputs(), 0);
        }
        DrumMachine x = holding(3, 4, true, 5, true);
        x.word(10, 6900610022L, false);
        x.flip(10, 4, 2);
        long before = x.time();
        Due.same("an invalid instruction", x.run(5), 0);
        Due.same("its fault", x.fault(), 1);
        Due.same("its time", x.time() - before, 8);
        Due.same("its next", x.next(), 10);
        distributes("its", x, 5, true);
    }

    private static void addressesThatAreNone() {
        int[] accessing = {10, 11, 14, 15, 16, 19, 20, 21, 22, 24, 60, 61, 65, 66, 67, 69, 70, 71, 84};
        for (int operation : accessing) {
            DrumMachine x = holding(3, 4, true, 5, true);
            x.card(1, false);
            String what = "operation " + operation + " with no such D";
            Due.same(what + ": time", oneStep(x, operation * 100000000L + 2000022L), 1);
            Due.same(what + ": fault", x.fault(), 2);
            Due.same(what + ": next", x.next(), 10);
            holds(what, x, 3, 4, true);
            distributes(what, x, 5, true);
            Due.same(what + ": the card is still there", x.card(2, false), 2);
        }
        int[] inner = {0, 1, 30, 31, 35, 44, 45, 46, 47, 90, 99};
        for (int operation : inner) {
            DrumMachine x = holding(0, 0, false, 0, false);
            x.word(10, operation * 100000000L + 99900022L, false);
            Due.same("operation " + operation + " needs no address", x.run(1), 1);
            Due.same("its next", x.next(), 22);
        }
    }
}
