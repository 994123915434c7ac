/** Promises 1 (a new object), 2 (word), 3 (flip) and 17 (get). */
final class WordsTest {
    private static final long NOT_VALID = -10000000000L;

    public static void main(String[] args) {
        newObject();
        words();
        wrongWords();
        everyDigitHasItsCode();
        justTenCodesAreValid();
        flippedWords();
        wrongFlips();
        Due.end();
    }

    private static void newObject() {
        DrumMachine x = new DrumMachine();
        for (int address = 0; address < 200; address++) {
            Due.same("new: get(" + address + ")", x.get(address), 0);
        }
        Due.same("new: time", x.time(), 0);
        Due.same("new: fault", x.fault(), 0);
        Due.same("new: next", x.next(), 0);
        Due.same("new: outputs", x.outputs(), 0);
        for (int which = 0; which < 3; which++) {
            Due.same("new: register(" + which + ")", x.register(which), 0);
            Due.same("new: sign(" + which + ")", x.sign(which), false);
        }
        for (int symbol = 0; symbol < 20; symbol++) {
            Due.same("new: place(" + symbol + ")", x.place(symbol), -1);
        }
        Due.refused("new: run(1)", IllegalStateException.class, () -> x.run(1));
        Due.refused("new: run(0)", IllegalStateException.class, () -> x.run(0));
        Due.refused("new: assemble", IllegalStateException.class, () -> x.assemble(false));
        Due.refused("new: output(0)", IndexOutOfBoundsException.class, () -> x.output(0));
        Due.same("new: the first line's number", x.line(0, 0, 0, 0), 0);
        Due.same("new: the first card", x.card(0, false), 1);
        DrumMachine other = new DrumMachine();
        other.word(3, 5, true);
        Due.same("objects are apart", x.get(3), 0);
        newWordsArePlus();
    }

    private static void newWordsArePlus() {
        DrumMachine x = new DrumMachine();
        x.word(0, 6900070001L, false);
        x.start(0);
        Due.same("new word loaded", x.run(1), 1);
        Due.same("a new word is plus", x.sign(1), false);
    }

    private static void words() {
        DrumMachine x = new DrumMachine();
        x.word(0, 0, false);
        x.word(199, 9999999999L, true);
        x.word(50, 9999999999L, false);
        x.word(51, 1234567890L, true);
        x.word(52, 0, true);
        Due.same("get(0)", x.get(0), 0);
        Due.same("get(199)", x.get(199), -9999999999L);
        Due.same("get(50)", x.get(50), 9999999999L);
        Due.same("get(51)", x.get(51), -1234567890L);
        Due.same("minus zero", x.get(52), 0);
        x.word(51, 7, false);
        Due.same("a word written again", x.get(51), 7);
        Due.same("its neighbours", x.get(50) + x.get(52), 9999999999L);
        Due.same("words take no time", x.time(), 0);
    }

    private static void wrongWords() {
        DrumMachine x = new DrumMachine();
        x.word(0, 5, true);
        Due.refused("word(-1)", IndexOutOfBoundsException.class, () -> x.word(-1, 0, false));
        Due.refused("word(200)", IndexOutOfBoundsException.class, () -> x.word(200, 0, false));
        Due.refused("word(0, -1)", IllegalArgumentException.class, () -> x.word(0, -1, false));
        Due.refused("word(0, 10^10)", IllegalArgumentException.class, () -> x.word(0, 10000000000L, false));
        Due.refused("word(0, least)", IllegalArgumentException.class, () -> x.word(0, Long.MIN_VALUE, false));
        Due.refused("word(0, most)", IllegalArgumentException.class, () -> x.word(0, Long.MAX_VALUE, false));
        Due.refused("both wrong", IndexOutOfBoundsException.class, () -> x.word(200, -1, false));
        Due.same("a refused word changes nothing", x.get(0), -5);
        Due.refused("get(-1)", IndexOutOfBoundsException.class, () -> x.get(-1));
        Due.refused("get(200)", IndexOutOfBoundsException.class, () -> x.get(200));
        Due.refused("get(most)", IndexOutOfBoundsException.class, () -> x.get(Integer.MAX_VALUE));
        Due.refused("get(least)", IndexOutOfBoundsException.class, () -> x.get(Integer.MIN_VALUE));
    }

    /** Turns all the bits of a digit to those of another one by hand: then it is that other one. */
    private static void everyDigitHasItsCode() {
        DrumMachine x = new DrumMachine();
        for (int from = 0; from < 10; from++) {
            for (int to = 0; to < 10; to++) {
                x.word(9, from * 1000L + 4000000002L, true);
                int differing = code(from) ^ code(to);
                for (int bit = 0; bit < 7; bit++) {
                    if ((differing >> bit & 1) == 1) {
                        x.flip(9, 3, bit);
                    }
                }
                Due.same(from + " flipped to " + to, x.get(9), -(to * 1000L + 4000000002L));
            }
        }
    }

    private static void justTenCodesAreValid() {
        DrumMachine x = new DrumMachine();
        int held = code(0);
        int valid = 0;
        for (int code = 0; code < 128; code++) {
            boolean answer = true;
            for (int bit = 0; bit < 7; bit++) {
                if ((held >> bit & 1) != (code >> bit & 1)) {
                    answer = x.flip(100, 9, bit);
                }
            }
            held = code;
            boolean want = Integer.bitCount(code & 31) == 1 && Integer.bitCount(code & 96) == 1;
            Due.same("code " + code + " is valid", answer, want);
            Due.same("get with code " + code, x.get(100) != NOT_VALID, want);
            valid += want ? 1 : 0;
        }
        Due.same("valid codes", valid, 10);
    }

    private static void flippedWords() {
        DrumMachine x = new DrumMachine();
        x.word(7, 12, true);
        Due.same("one bit wrong", x.flip(7, 0, 0), false);
        Due.same("get of it", x.get(7), NOT_VALID);
        Due.same("a second digit wrong", x.flip(7, 9, 6), false);
        Due.same("the first put right", x.flip(7, 0, 0), false);
        Due.same("get of it still", x.get(7), NOT_VALID);
        Due.same("the second put right", x.flip(7, 9, 6), true);
        Due.same("the word is as before", x.get(7), -12);
        Due.same("the word before it", x.get(6), 0);
        Due.same("the word behind it", x.get(8), 0);
        x.flip(7, 5, 4);
        x.word(7, 3, false);
        Due.same("a written word is valid", x.get(7), 3);
        Due.same("and stays so", x.flip(7, 5, 4) || !x.flip(7, 5, 4), false);
    }

    private static void wrongFlips() {
        DrumMachine x = new DrumMachine();
        Due.refused("flip(-1, 0, 0)", IndexOutOfBoundsException.class, () -> x.flip(-1, 0, 0));
        Due.refused("flip(200, 0, 0)", IndexOutOfBoundsException.class, () -> x.flip(200, 0, 0));
        Due.refused("flip(0, -1, 0)", IndexOutOfBoundsException.class, () -> x.flip(0, -1, 0));
        Due.refused("flip(0, 10, 0)", IndexOutOfBoundsException.class, () -> x.flip(0, 10, 0));
        Due.refused("flip(0, 0, -1)", IndexOutOfBoundsException.class, () -> x.flip(0, 0, -1));
        Due.refused("flip(0, 0, 7)", IndexOutOfBoundsException.class, () -> x.flip(0, 0, 7));
        Due.refused("flip(3, 10, 0)", IndexOutOfBoundsException.class, () -> x.flip(3, 10, 0));
        for (int address = 0; address < 200; address++) {
            Due.same("refused flips change nothing", x.get(address), 0);
        }
        Due.same("flip(199, 9, 6)", x.flip(199, 9, 6), false);
        Due.same("flip(199, 9, 5)", x.flip(199, 9, 5), true);
        Due.same("get(199)", x.get(199), 5000000000L);
    }

    private static int code(int digit) {
        return 1 << digit % 5 | 1 << (digit < 5 ? 5 : 6);
    }
}
