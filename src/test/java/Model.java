import java.math.BigInteger;
import java.util.ArrayDeque;
import java.util.ArrayList;
import java.util.Arrays;
import java.util.List;

/**
 * The document once more, as literally as can be and without regard to speed: bits one by one, time word by word,
 * the accumulator as a big number. ModelTest compares the program with it.
 */
final class Model {
    private static final BigInteger TEN = BigInteger.TEN;
    private static final BigInteger TEN_DIGITS = TEN.pow(10);
    private static final BigInteger TWENTY_DIGITS = TEN.pow(20);
    private static final List<Integer> READING =
            Arrays.asList(10, 11, 15, 16, 60, 61, 65, 66, 67, 69, 19, 14, 84, 71);
    private static final List<Integer> WRITING = Arrays.asList(20, 21, 22, 24, 70);
    private static final List<Integer> SHIFTS = Arrays.asList(30, 31, 35);
    private static final List<Integer> OTHERS =
            Arrays.asList(0, 1, 44, 45, 46, 47, 90, 91, 92, 93, 94, 95, 96, 97, 98, 99);

    /** What stops a step, by its number. */
    private static final class Fault extends RuntimeException {
        private static final long serialVersionUID = 1L;
        private final int number;

        Fault(int itsNumber) {
            number = itsNumber;
        }
    }

    final boolean[][][] bits = new boolean[200][10][7];
    final boolean[] minus = new boolean[200];
    long time;
    BigInteger accumulator = BigInteger.ZERO;
    boolean accumulatorMinus;
    BigInteger distributor = BigInteger.ZERO;
    boolean distributorMinus;
    boolean overflow;
    int next;
    int fault;
    final ArrayDeque<Long> cardValues = new ArrayDeque<>();
    final ArrayDeque<Boolean> cardSigns = new ArrayDeque<>();
    final List<Long> output = new ArrayList<>();
    final List<int[]> lines = new ArrayList<>();
    final boolean[] reserved = new boolean[200];
    final int[] places = new int[20];

    Model() {
        for (int address = 0; address < 200; address++) {
            word(address, 0, false);
        }
        Arrays.fill(places, -1);
    }

    static boolean hasOperation(int operation) {
        return READING.contains(operation) || WRITING.contains(operation) || SHIFTS.contains(operation)
                || OTHERS.contains(operation);
    }

    private static void need(boolean holds, RuntimeException otherwise) {
        if (!holds) {
            throw otherwise;
        }
    }

    void word(int address, long value, boolean sign) {
        need(address >= 0 && address < 200, new IndexOutOfBoundsException());
        need(value >= 0 && value <= 9999999999L, new IllegalArgumentException());
        String digits = String.format("%010d", value);
        for (int digit = 0; digit < 10; digit++) {
            int d = digits.charAt(9 - digit) - '0';
            Arrays.fill(bits[address][digit], false);
            bits[address][digit][d % 5] = true;
            bits[address][digit][d < 5 ? 5 : 6] = true;
        }
        minus[address] = sign;
    }

    private static int count(boolean[] row, int from, int to) {
        int ones = 0;
        for (int i = from; i <= to; i++) {
            ones += row[i] ? 1 : 0;
        }
        return ones;
    }

    private boolean valid(int address) {
        for (boolean[] row : bits[address]) {
            if (count(row, 0, 4) != 1 || count(row, 5, 6) != 1) {
                return false;
            }
        }
        return true;
    }

    private long value(int address) {
        long value = 0;
        for (int digit = 9; digit >= 0; digit--) {
            boolean[] row = bits[address][digit];
            int rest = 0;
            while (!row[rest]) {
                rest++;
            }
            value = value * 10 + rest + (row[6] ? 5 : 0);
        }
        return value;
    }

    boolean flip(int address, int digit, int bit) {
        need(address >= 0 && address < 200 && digit >= 0 && digit < 10 && bit >= 0 && bit < 7,
                new IndexOutOfBoundsException());
        bits[address][digit][bit] = !bits[address][digit][bit];
        return valid(address);
    }

    long get(int address) {
        need(address >= 0 && address < 200, new IndexOutOfBoundsException());
        if (!valid(address)) {
            return -1 - 9999999999L;
        }
        return minus[address] ? -value(address) : value(address);
    }

    int card(long value, boolean sign) {
        need(value >= 0 && value <= 9999999999L, new IllegalArgumentException());
        need(cardValues.size() < 20, new IllegalStateException());
        cardValues.add(value);
        cardSigns.add(sign);
        return cardValues.size();
    }

    private static boolean part(int part) {
        return part == -1 || part >= 0 && part < 200 || part >= 1000 && part < 1020;
    }

    int line(int location, int operation, int data, int nextPart) {
        boolean dataIsPart = SHIFTS.contains(operation) ? data >= -1 && data <= 9 : part(data);
        need(hasOperation(operation) && part(location) && dataIsPart && part(nextPart),
                new IllegalArgumentException());
        need(lines.size() < 40, new IllegalStateException());
        lines.add(new int[] {location, operation, data, nextPart});
        return lines.size() - 1;
    }

    void reserve(int address) {
        need(address >= 0 && address < 200, new IndexOutOfBoundsException());
        reserved[address] = true;
    }

    void clear() {
        lines.clear();
        Arrays.fill(reserved, false);
        Arrays.fill(places, -1);
    }

    int place(int symbol) {
        need(symbol >= 0 && symbol < 20, new IndexOutOfBoundsException());
        return places[symbol];
    }

    int assemble(boolean optimum) {
        need(!lines.isEmpty(), new IllegalStateException());
        Arrays.fill(places, -1);
        try {
            List<int[]> words = placed(optimum);
            for (int[] word : words) {
                word(word[0], word[1] * 100000000L + word[2] * 10000L + word[3], false);
            }
            return words.get(0)[0];
        } catch (UnsupportedOperationException e) {
            Arrays.fill(places, -1);
            throw e;
        }
    }

    private List<int[]> placed(boolean optimum) {
        boolean[] free = new boolean[200];
        for (int address = 0; address < 200; address++) {
            free[address] = !reserved[address];
        }
        for (int[] line : lines) {
            for (int i = 0; i < 4; i++) {
                boolean counts = i == 0 || i == 3 || i == 2 && !SHIFTS.contains(line[1]);
                if (counts && line[i] >= 0 && line[i] < 200) {
                    free[line[i]] = false;
                }
            }
        }
        List<int[]> words = new ArrayList<>();
        for (int i = 0; i < lines.size(); i++) {
            int[] line = lines.get(i);
            int[] word = {0, line[1], 0, 0};
            boolean follows = line[0] == -1 && i > 0 && lines.get(i - 1)[3] == -1;
            word[0] = follows ? words.get(i - 1)[3] : address(line[0], 0, optimum, free);
            if (SHIFTS.contains(line[1])) {
                word[2] = Math.max(line[2], 0);
            } else {
                word[2] = line[2] == -1 ? 0 : address(line[2], word[0] + 1, optimum, free);
            }
            boolean accesses = READING.contains(line[1]) || WRITING.contains(line[1]);
            int best = (accesses ? word[2] : word[0]) + 1 + takes(line[1], word[2]);
            boolean open = i + 1 < lines.size() && lines.get(i + 1)[0] == -1;
            word[3] = line[3] == -1 && !open ? 0 : address(line[3], best, optimum, free);
            for (int[] before : words) {
                need(before[0] != word[0], new UnsupportedOperationException());
            }
            words.add(word);
        }
        return words;
    }

    private int address(int part, int best, boolean optimum, boolean[] free) {
        if (part >= 0 && part < 200) {
            return part;
        }
        if (part >= 1000 && places[part - 1000] != -1) {
            return places[part - 1000];
        }
        int found = -1;
        int foundAway = 0;
        for (int address = 0; address < 200; address++) {
            int away = optimum ? ((address - best) % 50 + 50) % 50 : 0;
            if (free[address] && (found == -1 || away < foundAway)) {
                found = address;
                foundAway = away;
            }
        }
        need(found != -1, new UnsupportedOperationException());
        free[found] = false;
        if (part >= 1000) {
            places[part - 1000] = found;
        }
        return found;
    }

    /** The time of an operation as far as it does not hang on numbers. */
    private static int takes(int operation, int data) {
        switch (operation) {
            case 10: case 11: case 15: case 16: case 60: case 61: case 65: case 66: case 67:
                return 2;
            case 19: case 14:
                return 20;
            case 70: case 71:
                return 10;
            case 30: case 35:
                return data % 10;
            case 31:
                return (data % 10 == 0 ? 10 : data % 10) + 1;
            default:
                return 0;
        }
    }

    void start(int address) {
        need(address >= 0 && address <= 9999, new IllegalArgumentException());
        next = address;
        fault = -1;
    }

    int run(int steps) {
        need(steps >= 0 && steps <= 300, new IllegalArgumentException());
        need(fault == -1, new IllegalStateException());
        int done = 0;
        while (done < steps && fault == -1) {
            int from = next;
            try {
                step();
                done++;
            } catch (Fault f) {
                fault = f.number;
                next = from;
            }
        }
        return done;
    }

    private void waitAndAccess(int address) {
        need(address >= 0 && address < 200, new Fault(2));
        while (time % 50 != address % 50) {
            time++;
        }
        time++;
    }

    private long readValid(int address) {
        need(valid(address), new Fault(1));
        return value(address);
    }

    private void step() {
        waitAndAccess(next);
        String digits = String.format("%010d", readValid(next));
        int operation = Integer.parseInt(digits.substring(0, 2));
        int data = Integer.parseInt(digits.substring(2, 6));
        int following = Integer.parseInt(digits.substring(6));
        need(hasOperation(operation), new Fault(2));
        if (READING.contains(operation)) {
            waitAndAccess(data);
            if (operation == 84) {
                lookUp(data);
            } else {
                BigInteger word = BigInteger.valueOf(readValid(data));
                useWord(operation, word, minus[data]);
                distributor = word;
                distributorMinus = minus[data];
            }
        } else if (WRITING.contains(operation)) {
            waitAndAccess(data);
            write(operation, data);
        } else if (SHIFTS.contains(operation)) {
            shift(operation, data % 10);
        } else if (operation == 1) {
            fault = 0;
        }
        time += takes(operation, data);
        next = branches(operation) ? data : following;
    }

    private BigInteger upper() {
        return accumulator.divide(TEN_DIGITS);
    }

    private BigInteger lower() {
        return accumulator.mod(TEN_DIGITS);
    }

    private static int units(BigInteger number) {
        int sum = 0;
        for (char c : number.toString().toCharArray()) {
            sum += c - '0';
        }
        return sum;
    }

    private void useWord(int operation, BigInteger word, boolean wordMinus) {
        switch (operation) {
            case 69:
                return;
            case 71:
                need(output.size() < 40, new Fault(4));
                output.add(wordMinus ? -word.longValue() : word.longValue());
                return;
            case 19:
                time += 2 * units(upper());
                accumulator = upper().multiply(word).add(lower());
                accumulatorMinus ^= wordMinus;
                return;
            case 14:
                if (upper().compareTo(word) >= 0) {
                    overflow = true;
                    throw new Fault(3);
                }
                BigInteger[] answer = accumulator.divideAndRemainder(word);
                time += 2 * units(answer[0]);
                accumulator = answer[1].multiply(TEN_DIGITS).add(answer[0]);
                accumulatorMinus ^= wordMinus;
                return;
            default:
                add(operation, word, wordMinus);
        }
    }

    private void add(int operation, BigInteger word, boolean wordMinus) {
        if (operation >= 60) {
            accumulator = BigInteger.ZERO;
            accumulatorMinus = false;
        }
        int kind = operation % 10;
        BigInteger added = wordMinus && kind != 7 ? word.negate() : word;
        if (kind == 1 || kind == 6) {
            added = added.negate();
        }
        if (kind == 0 || kind == 1) {
            added = added.multiply(TEN_DIGITS);
        }
        BigInteger sum = (accumulatorMinus ? accumulator.negate() : accumulator).add(added);
        if (sum.signum() != 0) {
            accumulatorMinus = sum.signum() < 0;
        }
        if (sum.abs().compareTo(TWENTY_DIGITS) >= 0) {
            overflow = true;
        }
        accumulator = sum.abs().mod(TWENTY_DIGITS);
    }

    private void lookUp(int from) {
        for (int address = from; address <= from / 50 * 50 + 49; address++) {
            time += address == from ? 0 : 1;
            if (BigInteger.valueOf(readValid(address)).compareTo(distributor) >= 0) {
                accumulator = withData(accumulator, address);
                return;
            }
        }
        throw new Fault(5);
    }

    private static BigInteger withData(BigInteger number, int data) {
        String digits = String.format("%020d", number);
        return new BigInteger(digits.substring(0, 12) + String.format("%04d", data) + digits.substring(16));
    }

    private void write(int operation, int data) {
        if (operation == 70) {
            need(!cardValues.isEmpty(), new Fault(4));
            word(data, cardValues.remove(), cardSigns.remove());
            return;
        }
        if (operation == 20 || operation == 21) {
            distributor = operation == 20 ? lower() : upper();
            distributorMinus = accumulatorMinus;
        }
        if (operation == 22) {
            String digits = String.format("%010d", lower());
            distributor = withData(distributor, Integer.parseInt(digits.substring(2, 6)));
        }
        word(data, distributor.longValue(), distributorMinus);
    }

    private void shift(int operation, int digits) {
        String text = String.format("%020d", accumulator);
        if (operation == 35) {
            accumulator = new BigInteger(text.substring(digits) + "0".repeat(digits));
            return;
        }
        int lost = operation == 31 && digits == 0 ? 10 : digits;
        accumulator = new BigInteger(text.substring(0, 20 - lost));
        if (operation == 31 && text.charAt(20 - lost) >= '5') {
            accumulator = accumulator.add(BigInteger.ONE);
        }
    }

    private boolean branches(int operation) {
        switch (operation) {
            case 44:
                return upper().signum() != 0;
            case 45:
                return accumulator.signum() != 0;
            case 46:
                return accumulatorMinus;
            case 47:
                boolean was = overflow;
                overflow = false;
                return was;
            default:
                return operation >= 90
                        && String.format("%010d", distributor).charAt(9 - (operation - 90)) == '8';
        }
    }

    long register(int which) {
        need(which >= 0 && which < 3, new IndexOutOfBoundsException());
        return (which == 0 ? upper() : which == 1 ? lower() : distributor).longValue();
    }

    boolean sign(int which) {
        need(which >= 0 && which < 3, new IndexOutOfBoundsException());
        return which == 0 ? accumulatorMinus : which == 1 ? distributorMinus : overflow;
    }

    long output(int i) {
        need(i >= 0 && i < output.size(), new IndexOutOfBoundsException());
        return output.get(i);
    }
}
