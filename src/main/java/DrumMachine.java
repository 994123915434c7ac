import java.util.Arrays;

/**
 * A drum calculator of 1953 with its assembler. The public methods only look at their arguments and
 * hand the work to the parts below: the drum, the cards, the punch, the processor and the assembler.
 */
public final class DrumMachine {
    private static final int MOST_STEPS = 300;
    private static final int MOST_NEXT = 9999;
    private static final long ANSWER_FOR_NOT_VALID = -10000000000L;

    private final Drum drum;
    private final CardDeck cards;
    private final Punch punch;
    private final Processor processor;
    private final Assembler assembler;

    public DrumMachine() {
        drum = new Drum();
        cards = new CardDeck();
        punch = new Punch();
        processor = new Processor(drum, cards, punch);
        assembler = new Assembler();
    }

    public void word(int address, long value, boolean minus)
            throws IndexOutOfBoundsException, IllegalArgumentException {
        if (!Drum.hasAddress(address)) {
            throw new IndexOutOfBoundsException("no such address");
        }
        if (!Digits.fitWord(value)) {
            throw new IllegalArgumentException("a word has ten digits");
        }
        drum.store(address, value, minus);
    }

    public boolean flip(int address, int digit, int bit) throws IndexOutOfBoundsException {
        if (!Drum.hasBit(address, digit, bit)) {
            throw new IndexOutOfBoundsException("no such bit");
        }
        drum.turnBitOver(address, digit, bit);
        return drum.isValid(address);
    }

    public int card(long value, boolean minus) throws IllegalArgumentException, IllegalStateException {
        if (!Digits.fitWord(value)) {
            throw new IllegalArgumentException("a card has ten digits");
        }
        if (cards.isFull()) {
            throw new IllegalStateException("too many cards are still to be read");
        }
        cards.put(value, minus);
        return cards.size();
    }

    public int line(int location, int operation, int data, int next)
            throws IllegalArgumentException, IllegalStateException {
        if (!Operations.exists(operation)) {
            throw new IllegalArgumentException("no such operation");
        }
        if (!Assembler.isPart(location) || !Assembler.isDataPart(operation, data) || !Assembler.isPart(next)) {
            throw new IllegalArgumentException("no such part");
        }
        if (assembler.isFull()) {
            throw new IllegalStateException("too many lines");
        }
        return assembler.addLine(location, operation, data, next);
    }

    public void reserve(int address) throws IndexOutOfBoundsException {
        if (!Drum.hasAddress(address)) {
            throw new IndexOutOfBoundsException("no such address");
        }
        assembler.markReserved(address);
    }

    public void clear() {
        assembler.forgetAll();
    }

    public int assemble(boolean optimum) throws IllegalStateException, UnsupportedOperationException {
        if (assembler.isEmpty()) {
            throw new IllegalStateException("there are no lines");
        }
        if (!assembler.placeAll(optimum)) {
            throw new UnsupportedOperationException("the lines can't be placed");
        }
        assembler.writeTo(drum);
        return assembler.firstLocation();
    }

    public int place(int symbol) throws IndexOutOfBoundsException {
        if (!Assembler.hasSymbol(symbol)) {
            throw new IndexOutOfBoundsException("no such symbol");
        }
        return assembler.placeOf(symbol);
    }

    public void start(int address) throws IllegalArgumentException {
        if (address < 0 || address > MOST_NEXT) {
            throw new IllegalArgumentException("an address has four digits");
        }
        processor.goOnFrom(address);
    }

    public int run(int steps) throws IllegalArgumentException, IllegalStateException {
        if (steps < 0 || steps > MOST_STEPS) {
            throw new IllegalArgumentException("no such number of steps");
        }
        if (processor.isStopped()) {
            throw new IllegalStateException("the machine is stopped");
        }
        return processor.doSteps(steps);
    }

    public int fault() {
        return processor.stopCause();
    }

    public long time() {
        return processor.wordTimes();
    }

    public long register(int which) throws IndexOutOfBoundsException {
        switch (which) {
            case 0:
                return processor.upperDigits();
            case 1:
                return processor.lowerDigits();
            case 2:
                return processor.distributorDigits();
            default:
                throw new IndexOutOfBoundsException("no such register");
        }
    }

    public boolean sign(int which) throws IndexOutOfBoundsException {
        switch (which) {
            case 0:
                return processor.accumulatorIsMinus();
            case 1:
                return processor.distributorIsMinus();
            case 2:
                return processor.overflowIsOn();
            default:
                throw new IndexOutOfBoundsException("no such sign");
        }
    }

    public int next() {
        return processor.nextAddress();
    }

    public long get(int address) throws IndexOutOfBoundsException {
        if (!Drum.hasAddress(address)) {
            throw new IndexOutOfBoundsException("no such address");
        }
        if (!drum.isValid(address)) {
            return ANSWER_FOR_NOT_VALID;
        }
        return Digits.withSign(drum.valueAt(address), drum.isMinus(address));
    }

    public long output(int i) throws IndexOutOfBoundsException {
        if (!punch.hasWord(i)) {
            throw new IndexOutOfBoundsException("no such word of the output");
        }
        return punch.wordAt(i);
    }

    public int outputs() {
        return punch.size();
    }

    /** Arithmetic on the ten digits of a word, which are held as one number. */
    private static final class Digits {
        static final int COUNT = 10;
        static final long WORD_SIZE = 10000000000L;

        private static final long OPERATION_UNIT = 100000000L;
        private static final long DATA_UNIT = 10000L;
        private static final long ADDRESS_SIZE = 10000L;

        static boolean fitWord(long value) {
            return value >= 0 && value < WORD_SIZE;
        }

        static long withSign(long value, boolean minus) {
            return minus ? -value : value;
        }

        static long powerOfTen(int exponent) {
            long power = 1;
            for (int i = 0; i < exponent && i < COUNT; i++) {
                power *= 10;
            }
            return power;
        }

        static int digitAt(long value, int position) {
            return (int) (value / powerOfTen(position) % 10);
        }

        static int sum(long value) {
            int total = 0;
            long rest = value;
            for (int i = 0; i < COUNT; i++) {
                total += (int) (rest % 10);
                rest /= 10;
            }
            return total;
        }

        static int operationOf(long word) {
            return (int) (word / OPERATION_UNIT);
        }

        static int dataAddressOf(long word) {
            return (int) (word / DATA_UNIT % ADDRESS_SIZE);
        }

        static int nextAddressOf(long word) {
            return (int) (word % ADDRESS_SIZE);
        }

        static long instruction(int operation, int data, int next) {
            return operation * OPERATION_UNIT + data * DATA_UNIT + next;
        }

        static long withDataAddress(long word, int data) {
            long oldData = word / DATA_UNIT % ADDRESS_SIZE;
            return word + (data - oldData) * DATA_UNIT;
        }
    }

    /** Words by their bits; the value that the bits make is kept beside them so that reading is cheap. */
    private static final class Drum {
        static final int ADDRESSES = 200;
        static final int ANGLES = 50;

        private static final long NOT_VALID = -1L;
        private static final int BITS = 7;
        private static final int BIT_BELOW_FIVE = 1 << 5;
        private static final int BIT_FROM_FIVE = 1 << 6;

        private final int[] codes;
        private final long[] values;
        private final boolean[] minus;

        Drum() {
            codes = new int[ADDRESSES * Digits.COUNT];
            values = new long[ADDRESSES];
            minus = new boolean[ADDRESSES];
            Arrays.fill(codes, codeOf(0));
        }

        static boolean hasAddress(int address) {
            return address >= 0 && address < ADDRESSES;
        }

        static boolean hasBit(int address, int digit, int bit) {
            return hasAddress(address) && digit >= 0 && digit < Digits.COUNT && bit >= 0 && bit < BITS;
        }

        static int angleOf(int address) {
            return address % ANGLES;
        }

        void store(int address, long value, boolean isMinus) {
            long rest = value;
            for (int digit = 0; digit < Digits.COUNT; digit++) {
                codes[address * Digits.COUNT + digit] = codeOf((int) (rest % 10));
                rest /= 10;
            }
            values[address] = value;
            minus[address] = isMinus;
        }

        void turnBitOver(int address, int digit, int bit) {
            codes[address * Digits.COUNT + digit] ^= 1 << bit;
            values[address] = valueOfCodes(address);
        }

        boolean isValid(int address) {
            return values[address] != NOT_VALID;
        }

        long valueAt(int address) {
            return values[address];
        }

        boolean isMinus(int address) {
            return minus[address];
        }

        private long valueOfCodes(int address) {
            long value = 0;
            for (int digit = Digits.COUNT - 1; digit >= 0; digit--) {
                int read = digitOf(codes[address * Digits.COUNT + digit]);
                if (read < 0) {
                    return NOT_VALID;
                }
                value = value * 10 + read;
            }
            return value;
        }

        private static int codeOf(int digit) {
            return 1 << digit % 5 | (digit < 5 ? BIT_BELOW_FIVE : BIT_FROM_FIVE);
        }

        // The ten codes of digits are just the codes that are valid: 5 x 2 choices of one bit each.
        private static int digitOf(int code) {
            for (int digit = 0; digit < 10; digit++) {
                if (codeOf(digit) == code) {
                    return digit;
                }
            }
            return -1;
        }
    }

    /** The cards that are still to be read, in a ring of as many places as there may be cards. */
    private static final class CardDeck {
        private static final int MOST = 20;

        private final long[] values;
        private final boolean[] minus;
        private int first;
        private int count;

        CardDeck() {
            values = new long[MOST];
            minus = new boolean[MOST];
        }

        int size() {
            return count;
        }

        boolean isFull() {
            return count >= MOST;
        }

        boolean isEmpty() {
            return count == 0;
        }

        void put(long value, boolean isMinus) {
            int place = (first + count) % MOST;
            values[place] = value;
            minus[place] = isMinus;
            count++;
        }

        long firstValue() {
            return values[first];
        }

        boolean firstIsMinus() {
            return minus[first];
        }

        void dropFirst() {
            first = (first + 1) % MOST;
            count--;
        }
    }

    /** The output. */
    private static final class Punch {
        private static final int MOST = 40;

        private final long[] words;
        private int count;

        Punch() {
            words = new long[MOST];
        }

        int size() {
            return count;
        }

        boolean isFull() {
            return count >= MOST;
        }

        boolean hasWord(int i) {
            return i >= 0 && i < count;
        }

        long wordAt(int i) {
            return words[i];
        }

        void put(long word) {
            words[count] = word;
            count++;
        }
    }

    /** What the two-digit operation codes mean, as far as the machine and the assembler both ask. */
    private static final class Operations {
        static final int NOTHING = 0;
        static final int STOP = 1;
        static final int ADD_UPPER = 10;
        static final int SUBTRACT_UPPER = 11;
        static final int DIVIDE = 14;
        static final int ADD_LOWER = 15;
        static final int SUBTRACT_LOWER = 16;
        static final int MULTIPLY = 19;
        static final int STORE_LOWER = 20;
        static final int STORE_UPPER = 21;
        static final int STORE_DATA_ADDRESS = 22;
        static final int STORE_DISTRIBUTOR = 24;
        static final int SHIFT_RIGHT = 30;
        static final int SHIFT_AND_ROUND = 31;
        static final int SHIFT_LEFT = 35;
        static final int BRANCH_UPPER_NOT_ZERO = 44;
        static final int BRANCH_NOT_ZERO = 45;
        static final int BRANCH_MINUS = 46;
        static final int BRANCH_OVERFLOW = 47;
        static final int RESET_ADD_UPPER = 60;
        static final int RESET_SUBTRACT_UPPER = 61;
        static final int RESET_ADD_LOWER = 65;
        static final int RESET_SUBTRACT_LOWER = 66;
        static final int RESET_ADD_LOWER_AS_PLUS = 67;
        static final int LOAD = 69;
        static final int READ_CARD = 70;
        static final int PUNCH = 71;
        static final int LOOK_UP = 84;
        static final int FIRST_BRANCH_ON_EIGHT = 90;
        static final int LAST_BRANCH_ON_EIGHT = 99;

        private static final int KIND_NONE = 0;
        private static final int KIND_INNER = 1;
        private static final int KIND_SHIFT = 2;
        private static final int KIND_BRANCH = 3;
        private static final int KIND_ADD = 4;
        private static final int KIND_READ = 5;
        private static final int KIND_WRITE = 6;

        private static final int ADD_TIME = 2;
        private static final int MULTIPLY_TIME = 20;
        private static final int CARD_TIME = 10;

        private static int kindOf(int operation) {
            switch (operation) {
                case NOTHING:
                case STOP:
                    return KIND_INNER;
                case SHIFT_RIGHT:
                case SHIFT_AND_ROUND:
                case SHIFT_LEFT:
                    return KIND_SHIFT;
                case BRANCH_UPPER_NOT_ZERO:
                case BRANCH_NOT_ZERO:
                case BRANCH_MINUS:
                case BRANCH_OVERFLOW:
                    return KIND_BRANCH;
                case ADD_UPPER:
                case SUBTRACT_UPPER:
                case ADD_LOWER:
                case SUBTRACT_LOWER:
                case RESET_ADD_UPPER:
                case RESET_SUBTRACT_UPPER:
                case RESET_ADD_LOWER:
                case RESET_SUBTRACT_LOWER:
                case RESET_ADD_LOWER_AS_PLUS:
                    return KIND_ADD;
                case LOAD:
                case MULTIPLY:
                case DIVIDE:
                case LOOK_UP:
                case PUNCH:
                    return KIND_READ;
                case STORE_LOWER:
                case STORE_UPPER:
                case STORE_DATA_ADDRESS:
                case STORE_DISTRIBUTOR:
                case READ_CARD:
                    return KIND_WRITE;
                default:
                    return branchesOnEight(operation) ? KIND_BRANCH : KIND_NONE;
            }
        }

        static boolean exists(int operation) {
            return kindOf(operation) != KIND_NONE;
        }

        static boolean shifts(int operation) {
            return kindOf(operation) == KIND_SHIFT;
        }

        static boolean adds(int operation) {
            return kindOf(operation) == KIND_ADD;
        }

        static boolean writes(int operation) {
            return kindOf(operation) == KIND_WRITE;
        }

        static boolean accessesData(int operation) {
            int kind = kindOf(operation);
            return kind == KIND_ADD || kind == KIND_READ || kind == KIND_WRITE;
        }

        static boolean branchesOnEight(int operation) {
            return operation >= FIRST_BRANCH_ON_EIGHT && operation <= LAST_BRANCH_ON_EIGHT;
        }

        static boolean addsToUpper(int operation) {
            return operation == ADD_UPPER || operation == SUBTRACT_UPPER
                    || operation == RESET_ADD_UPPER || operation == RESET_SUBTRACT_UPPER;
        }

        static boolean subtracts(int operation) {
            return operation == SUBTRACT_UPPER || operation == SUBTRACT_LOWER
                    || operation == RESET_SUBTRACT_UPPER || operation == RESET_SUBTRACT_LOWER;
        }

        static boolean resetsFirst(int operation) {
            return operation == RESET_ADD_UPPER || operation == RESET_SUBTRACT_UPPER
                    || operation == RESET_ADD_LOWER || operation == RESET_SUBTRACT_LOWER
                    || operation == RESET_ADD_LOWER_AS_PLUS;
        }

        static int shiftLength(int operation, int data) {
            int digits = data % 10;
            return operation == SHIFT_AND_ROUND && digits == 0 ? 10 : digits;
        }

        /** The time that an operation takes, without what hangs on the numbers it works with. */
        static int fixedTime(int operation, int data) {
            int kind = kindOf(operation);
            if (kind == KIND_ADD) {
                return ADD_TIME;
            }
            if (kind == KIND_SHIFT) {
                int rounding = operation == SHIFT_AND_ROUND ? 1 : 0;
                return shiftLength(operation, data) + rounding;
            }
            switch (operation) {
                case MULTIPLY:
                case DIVIDE:
                    return MULTIPLY_TIME;
                case READ_CARD:
                case PUNCH:
                    return CARD_TIME;
                default:
                    return 0;
            }
        }
    }

    /** Twenty digits with one sign, and the overflow. */
    private static final class Accumulator {
        private static final long HALF_SIZE = 100000L;
        private static final long HIGHEST_UNIT = 1000000000L;

        private long upper;
        private long lower;
        private boolean minus;
        private boolean overflow;

        Accumulator() {
        }

        long upperDigits() {
            return upper;
        }

        long lowerDigits() {
            return lower;
        }

        boolean isMinus() {
            return minus;
        }

        boolean isZero() {
            return upper == 0 && lower == 0;
        }

        boolean hasOverflow() {
            return overflow;
        }

        boolean takeOverflow() {
            boolean was = overflow;
            overflow = false;
            return was;
        }

        void reset() {
            upper = 0;
            lower = 0;
            minus = false;
        }

        void putDataAddress(int address) {
            lower = Digits.withDataAddress(lower, address);
        }

        void add(long otherUpper, long otherLower, boolean otherMinus) {
            int side = minus == otherMinus ? 1 : -1;
            long newUpper = upper + side * otherUpper;
            long newLower = lower + side * otherLower;
            if (newUpper < 0 || newUpper == 0 && newLower < 0) {
                newUpper = -newUpper;
                newLower = -newLower;
                minus = otherMinus;
            }
            newUpper += Math.floorDiv(newLower, Digits.WORD_SIZE);
            lower = Math.floorMod(newLower, Digits.WORD_SIZE);
            upper = newUpper % Digits.WORD_SIZE;
            if (newUpper >= Digits.WORD_SIZE) {
                overflow = true;
            }
        }

        // Twenty digits don't fit a long, so the upper is taken in two halves of five digits.
        void multiply(long word, boolean wordMinus) {
            long highProduct = upper / HALF_SIZE * word;
            long lowProduct = upper % HALF_SIZE * word;
            long low = highProduct % HALF_SIZE * HALF_SIZE + lowProduct + lower;
            upper = highProduct / HALF_SIZE + low / Digits.WORD_SIZE;
            lower = low % Digits.WORD_SIZE;
            minus = minus != wordMinus;
        }

        /** False, with overflow on and no digit changed, if the quotient would not fit the lower. */
        boolean divide(long word, boolean wordMinus) {
            if (word <= 0 || upper >= word) {
                overflow = true;
                return false;
            }
            long rest = upper;
            long below = lower;
            long quotient = 0;
            for (int i = 0; i < Digits.COUNT; i++) {
                rest = rest * 10 + below / HIGHEST_UNIT;
                below = below % HIGHEST_UNIT * 10;
                quotient = quotient * 10 + rest / word;
                rest %= word;
            }
            upper = rest;
            lower = quotient;
            minus = minus != wordMinus;
            return true;
        }

        void shiftRight(int digits) {
            long lost = Digits.powerOfTen(digits);
            long moved = upper % lost;
            upper /= lost;
            lower = lower / lost + moved * Digits.powerOfTen(Digits.COUNT - digits);
        }

        void shiftLeft(int digits) {
            long factor = Digits.powerOfTen(digits);
            long stays = Digits.powerOfTen(Digits.COUNT - digits);
            upper = upper % stays * factor + lower / stays;
            lower = lower % stays * factor;
        }

        void shiftAndRound(int digits) {
            int lastLost = Digits.digitAt(lower, digits - 1);
            shiftRight(digits);
            if (lastLost >= 5) {
                add(0, 1, minus);
            }
        }
    }

    /** The machine proper: its registers, its time, and its steps. */
    private static final class Processor {
        private static final int RUNNING = -1;
        private static final int STOPPED = 0;
        private static final int FAULT_NOT_VALID = 1;
        private static final int FAULT_NONE_SUCH = 2;
        private static final int FAULT_DIVIDE = 3;
        private static final int FAULT_CARDS = 4;
        private static final int FAULT_NOT_FOUND = 5;
        private static final int TIME_OF_A_UNIT = 2;

        private final Drum drum;
        private final CardDeck cards;
        private final Punch punch;
        private final Accumulator accumulator;
        private long distributor;
        private boolean distributorMinus;
        private int next;
        private int cause;
        private long time;

        Processor(Drum itsDrum, CardDeck itsCards, Punch itsPunch) {
            drum = itsDrum;
            cards = itsCards;
            punch = itsPunch;
            accumulator = new Accumulator();
            cause = STOPPED;
        }

        int stopCause() {
            return cause;
        }

        boolean isStopped() {
            return cause != RUNNING;
        }

        long wordTimes() {
            return time;
        }

        int nextAddress() {
            return next;
        }

        long upperDigits() {
            return accumulator.upperDigits();
        }

        long lowerDigits() {
            return accumulator.lowerDigits();
        }

        long distributorDigits() {
            return distributor;
        }

        boolean accumulatorIsMinus() {
            return accumulator.isMinus();
        }

        boolean distributorIsMinus() {
            return distributorMinus;
        }

        boolean overflowIsOn() {
            return accumulator.hasOverflow();
        }

        void goOnFrom(int address) {
            next = address;
            cause = RUNNING;
        }

        int doSteps(int steps) {
            int done = 0;
            for (int i = 0; i < steps && !isStopped(); i++) {
                cause = step();
                if (!isFault(cause)) {
                    done++;
                }
            }
            return done;
        }

        private static boolean isFault(int answer) {
            return answer != RUNNING && answer != STOPPED;
        }

        /** One step; answers RUNNING, STOPPED or a fault. NEXT is changed last: a fault leaves it. */
        private int step() {
            if (!Drum.hasAddress(next)) {
                return FAULT_NONE_SUCH;
            }
            waitAndAccess(next);
            if (!drum.isValid(next)) {
                return FAULT_NOT_VALID;
            }
            long instruction = drum.valueAt(next);
            int operation = Digits.operationOf(instruction);
            int data = Digits.dataAddressOf(instruction);
            int answer = operate(operation, data);
            if (isFault(answer)) {
                return answer;
            }
            time += Operations.fixedTime(operation, data);
            next = takesBranch(operation) ? data : Digits.nextAddressOf(instruction);
            return answer;
        }

        private void waitAndAccess(int address) {
            int now = (int) (time % Drum.ANGLES);
            int waiting = (Drum.angleOf(address) - now + Drum.ANGLES) % Drum.ANGLES;
            time += waiting + 1;
        }

        private int operate(int operation, int data) {
            if (!Operations.exists(operation)) {
                return FAULT_NONE_SUCH;
            }
            if (operation == Operations.STOP) {
                return STOPPED;
            }
            if (Operations.shifts(operation)) {
                shift(operation, Operations.shiftLength(operation, data));
                return RUNNING;
            }
            if (!Operations.accessesData(operation)) {
                return RUNNING;
            }
            if (!Drum.hasAddress(data)) {
                return FAULT_NONE_SUCH;
            }
            waitAndAccess(data);
            return Operations.writes(operation) ? write(operation, data) : read(operation, data);
        }

        private void shift(int operation, int digits) {
            if (operation == Operations.SHIFT_LEFT) {
                accumulator.shiftLeft(digits);
            } else if (operation == Operations.SHIFT_RIGHT) {
                accumulator.shiftRight(digits);
            } else {
                accumulator.shiftAndRound(digits);
            }
        }

        private boolean takesBranch(int operation) {
            if (Operations.branchesOnEight(operation)) {
                return Digits.digitAt(distributor, operation - Operations.FIRST_BRANCH_ON_EIGHT) == 8;
            }
            switch (operation) {
                case Operations.BRANCH_UPPER_NOT_ZERO:
                    return accumulator.upperDigits() != 0;
                case Operations.BRANCH_NOT_ZERO:
                    return !accumulator.isZero();
                case Operations.BRANCH_MINUS:
                    return accumulator.isMinus();
                case Operations.BRANCH_OVERFLOW:
                    return accumulator.takeOverflow();
                default:
                    return false;
            }
        }

        private int read(int operation, int address) {
            if (operation == Operations.LOOK_UP) {
                return lookUp(address);
            }
            if (!drum.isValid(address)) {
                return FAULT_NOT_VALID;
            }
            long value = drum.valueAt(address);
            boolean minus = drum.isMinus(address);
            int answer = RUNNING;
            if (operation == Operations.DIVIDE) {
                answer = divide(value, minus);
            } else if (operation == Operations.PUNCH) {
                answer = punchWord(value, minus);
            } else if (operation == Operations.MULTIPLY) {
                multiply(value, minus);
            } else if (Operations.adds(operation)) {
                addWord(operation, value, minus);
            }
            if (!isFault(answer)) {
                setDistributor(value, minus);
            }
            return answer;
        }

        private void addWord(int operation, long value, boolean minus) {
            if (Operations.resetsFirst(operation)) {
                accumulator.reset();
            }
            boolean takenMinus = minus && operation != Operations.RESET_ADD_LOWER_AS_PLUS;
            boolean addedMinus = takenMinus != Operations.subtracts(operation);
            if (Operations.addsToUpper(operation)) {
                accumulator.add(value, 0, addedMinus);
            } else {
                accumulator.add(0, value, addedMinus);
            }
        }

        private void multiply(long value, boolean minus) {
            time += TIME_OF_A_UNIT * Digits.sum(accumulator.upperDigits());
            accumulator.multiply(value, minus);
        }

        private int divide(long value, boolean minus) {
            if (!accumulator.divide(value, minus)) {
                return FAULT_DIVIDE;
            }
            time += TIME_OF_A_UNIT * Digits.sum(accumulator.lowerDigits());
            return RUNNING;
        }

        private int punchWord(long value, boolean minus) {
            if (punch.isFull()) {
                return FAULT_CARDS;
            }
            punch.put(Digits.withSign(value, minus));
            return RUNNING;
        }

        private int lookUp(int from) {
            int end = from - Drum.angleOf(from) + Drum.ANGLES;
            for (int address = from; address < end; address++) {
                // The access to D has already counted the first word.
                if (address > from) {
                    time++;
                }
                if (!drum.isValid(address)) {
                    return FAULT_NOT_VALID;
                }
                if (drum.valueAt(address) >= distributor) {
                    accumulator.putDataAddress(address);
                    return RUNNING;
                }
            }
            return FAULT_NOT_FOUND;
        }

        private int write(int operation, int address) {
            if (operation == Operations.READ_CARD) {
                return readCard(address);
            }
            if (operation == Operations.STORE_LOWER) {
                setDistributor(accumulator.lowerDigits(), accumulator.isMinus());
            } else if (operation == Operations.STORE_UPPER) {
                setDistributor(accumulator.upperDigits(), accumulator.isMinus());
            } else if (operation == Operations.STORE_DATA_ADDRESS) {
                int data = Digits.dataAddressOf(accumulator.lowerDigits());
                setDistributor(Digits.withDataAddress(distributor, data), distributorMinus);
            }
            drum.store(address, distributor, distributorMinus);
            return RUNNING;
        }

        private int readCard(int address) {
            if (cards.isEmpty()) {
                return FAULT_CARDS;
            }
            drum.store(address, cards.firstValue(), cards.firstIsMinus());
            cards.dropFirst();
            return RUNNING;
        }

        private void setDistributor(long value, boolean minus) {
            distributor = value;
            distributorMinus = minus;
        }
    }

    /** Lines with parts that may be names, and the places that those get on the drum. */
    private static final class Assembler {
        private static final int MOST_LINES = 40;
        private static final int SYMBOLS = 20;
        private static final int FIRST_SYMBOL = 1000;
        private static final int OPEN = -1;
        private static final int NO_PLACE = -1;
        private static final int MOST_SHIFT = 9;

        private final int[] locationParts;
        private final int[] operations;
        private final int[] dataParts;
        private final int[] nextParts;
        private final int[] locations;
        private final int[] data;
        private final int[] nexts;
        private final int[] symbolPlaces;
        private final boolean[] reserved;
        private final boolean[] taken;
        private int count;

        Assembler() {
            locationParts = new int[MOST_LINES];
            operations = new int[MOST_LINES];
            dataParts = new int[MOST_LINES];
            nextParts = new int[MOST_LINES];
            locations = new int[MOST_LINES];
            data = new int[MOST_LINES];
            nexts = new int[MOST_LINES];
            symbolPlaces = new int[SYMBOLS];
            reserved = new boolean[Drum.ADDRESSES];
            taken = new boolean[Drum.ADDRESSES];
            Arrays.fill(symbolPlaces, NO_PLACE);
        }

        static boolean isPart(int part) {
            return part == OPEN || Drum.hasAddress(part) || isSymbol(part);
        }

        static boolean isDataPart(int operation, int part) {
            if (Operations.shifts(operation)) {
                return part == OPEN || part >= 0 && part <= MOST_SHIFT;
            }
            return isPart(part);
        }

        static boolean hasSymbol(int symbol) {
            return symbol >= 0 && symbol < SYMBOLS;
        }

        private static boolean isSymbol(int part) {
            return part >= FIRST_SYMBOL && part < FIRST_SYMBOL + SYMBOLS;
        }

        boolean isFull() {
            return count >= MOST_LINES;
        }

        boolean isEmpty() {
            return count == 0;
        }

        int addLine(int location, int operation, int dataPart, int nextPart) {
            int number = count;
            locationParts[number] = location;
            operations[number] = operation;
            dataParts[number] = dataPart;
            nextParts[number] = nextPart;
            count++;
            return number;
        }

        void markReserved(int address) {
            reserved[address] = true;
        }

        void forgetAll() {
            count = 0;
            for (int address = 0; address < Drum.ADDRESSES; address++) {
                reserved[address] = false;
            }
            forgetPlaces();
        }

        int placeOf(int symbol) {
            return symbolPlaces[symbol];
        }

        int firstLocation() {
            return locations[0];
        }

        /** Gives every part its address; false, with no symbol placed, if that can't be done. */
        boolean placeAll(boolean optimum) {
            forgetPlaces();
            markTaken();
            boolean placed = true;
            for (int line = 0; line < count && placed; line++) {
                placed = placeLine(line, optimum) && !isLocationOfEarlierLine(line);
            }
            if (!placed) {
                forgetPlaces();
            }
            return placed;
        }

        void writeTo(Drum drum) {
            for (int line = 0; line < count; line++) {
                drum.store(locations[line], Digits.instruction(operations[line], data[line], nexts[line]), false);
            }
        }

        private void forgetPlaces() {
            Arrays.fill(symbolPlaces, NO_PLACE);
        }

        private void markTaken() {
            for (int address = 0; address < Drum.ADDRESSES; address++) {
                taken[address] = reserved[address];
            }
            for (int line = 0; line < count; line++) {
                takeIfAddress(locationParts[line]);
                takeIfAddress(nextParts[line]);
                if (!Operations.shifts(operations[line])) {
                    takeIfAddress(dataParts[line]);
                }
            }
        }

        private void takeIfAddress(int part) {
            if (Drum.hasAddress(part)) {
                taken[part] = true;
            }
        }

        private boolean isLocationOfEarlierLine(int line) {
            for (int earlier = 0; earlier < line; earlier++) {
                if (locations[earlier] == locations[line]) {
                    return true;
                }
            }
            return false;
        }

        private boolean placeLine(int line, boolean optimum) {
            locations[line] = placeLocation(line, optimum);
            if (locations[line] == NO_PLACE) {
                return false;
            }
            data[line] = placeData(line, optimum);
            if (data[line] == NO_PLACE) {
                return false;
            }
            nexts[line] = placeNext(line, optimum);
            return nexts[line] != NO_PLACE;
        }

        private int placeLocation(int line, boolean optimum) {
            int part = locationParts[line];
            if (part != OPEN) {
                return placePart(part, 0, optimum);
            }
            if (line > 0 && nextParts[line - 1] == OPEN) {
                return nexts[line - 1];
            }
            return newPlace(0, optimum);
        }

        private int placeData(int line, boolean optimum) {
            int part = dataParts[line];
            if (part == OPEN) {
                return 0;
            }
            if (Operations.shifts(operations[line])) {
                return part;
            }
            return placePart(part, locations[line] + 1, optimum);
        }

        private int placeNext(int line, boolean optimum) {
            int part = nextParts[line];
            if (part != OPEN) {
                return placePart(part, bestForNext(line), optimum);
            }
            boolean isFollowed = line + 1 < count && locationParts[line + 1] == OPEN;
            return isFollowed ? newPlace(bestForNext(line), optimum) : 0;
        }

        private int bestForNext(int line) {
            int operation = operations[line];
            int from = Operations.accessesData(operation) ? data[line] : locations[line];
            return from + 1 + Operations.fixedTime(operation, data[line]);
        }

        private int placePart(int part, int best, boolean optimum) {
            if (!isSymbol(part)) {
                return part;
            }
            int symbol = part - FIRST_SYMBOL;
            if (symbolPlaces[symbol] == NO_PLACE) {
                symbolPlaces[symbol] = newPlace(best, optimum);
            }
            return symbolPlaces[symbol];
        }

        private int newPlace(int best, boolean optimum) {
            int address = optimum ? firstFreeFromAngle(best) : leastFree();
            if (address != NO_PLACE) {
                taken[address] = true;
            }
            return address;
        }

        private int leastFree() {
            for (int address = 0; address < Drum.ADDRESSES; address++) {
                if (!taken[address]) {
                    return address;
                }
            }
            return NO_PLACE;
        }

        private int firstFreeFromAngle(int best) {
            for (int turned = 0; turned < Drum.ANGLES; turned++) {
                int angle = (best + turned) % Drum.ANGLES;
                for (int address = angle; address < Drum.ADDRESSES; address += Drum.ANGLES) {
                    if (!taken[address]) {
                        return address;
                    }
                }
            }
            return NO_PLACE;
        }
    }
}
