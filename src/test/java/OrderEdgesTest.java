/** The boundary cases of the term ORDERS: what wraps, and the ENDS of a job, a method for each sentence. */
final class OrderEdgesTest {
    private static final long LEAST = -(1L << 47);
    private static final long GREATEST = (1L << 47) - 1;
    private static final int LEAST_INDEX = -(1 << 23);
    private static final int GREATEST_INDEX = (1 << 23) - 1;
    private static final long END = Check.order(34, 0);
    /** Where the numbers of a program stand, in a BLOCK of their own. */
    private static final int N = 32;

    public static void main(String[] args) {
        wordsWrap();
        indexesWrap();
        registerZeroIsZeroForEver();
        storeIsZeroButForTheProgram();
        partsOfAnInstruction();
        addressesFrom16On();
        addressesWrap();
        indexJumpsAtZero();
        countingJumpAtOne();
        accumulatorJumpsAtZero();
        halvedDownwards();
        bytePrinted();
        tapeWithNoneLeft();
        divisionIsCutToZero();
        numbersPrinted();
        numbersReadAtTheEndOfTheTape();
        numbersReadFromAWholeTape();
        rootsAtSquares();
        Check.finish();
    }

    private static long[] row(long... orders) {
        return orders;
    }

    /** A machine that has done orders, with 34 behind them and numbers at N and on. */
    private static DrumMachine ran(long[] orders, long... numbers) {
        long[] program = java.util.Arrays.copyOf(orders, N + numbers.length);
        program[orders.length] = END;
        System.arraycopy(numbers, 0, program, N, numbers.length);
        DrumMachine x = Check.ran("", program);
        Check.due("ended", x.ended(0), 1);
        return x;
    }

    private static void dueAccumulator(String what, long due, long[] orders, long... numbers) {
        Check.due(what, ran(orders, numbers).register(0, -1), due);
    }

    private static void dueOrder(int f, long before, long word, long due) {
        dueAccumulator(f + " of " + before + " and " + word, due, row(Check.order(16, N), Check.order(f, N + 1)), before, word);
    }

    /** "A WORD has 48 bits, -2^47 to 2^47 - 1, and wraps." */
    private static void wordsWrap() {
        dueOrder(17, 0, LEAST, LEAST);
        dueOrder(17, 0, GREATEST, LEAST + 1);
        dueOrder(18, GREATEST, 1, LEAST);
        dueOrder(18, LEAST, LEAST, 0);
        dueOrder(18, LEAST, -1, GREATEST);
        dueOrder(19, LEAST, 1, GREATEST);
        dueOrder(19, GREATEST, -1, LEAST);
        dueOrder(19, 0, LEAST, LEAST);
        dueOrder(21, LEAST, -1, LEAST);
        dueOrder(21, GREATEST, 2, -2);
        dueOrder(21, 1L << 24, 1L << 24, 0);
        dueOrder(21, (1L << 46) + 1, 6, LEAST + 6);
        dueOrder(22, GREATEST, LEAST, 0);
    }

    private static void dueIndex(String what, long due, int before, long order) {
        DrumMachine x = ran(row(Check.order(16, N), Check.order(1, 1, 0, before), order), 0x7fff_ff80_0000L, 0x1_0080_0000L,
                0x7fff_ff7f_ffffL, -1);
        Check.due(what + " from " + before, x.register(0, 1), due);
    }

    /** "B-REGISTERS of 24 bits (-2^23 to 2^23 - 1, wrapping ..)", and "the lowest 24 bits" of a WORD. */
    private static void indexesWrap() {
        dueIndex("1", LEAST_INDEX, 0, Check.order(1, 1, 0, 1 << 23));
        dueIndex("1", GREATEST_INDEX, 0, Check.order(1, 1, 0, GREATEST_INDEX));
        dueIndex("1 by m", LEAST_INDEX, GREATEST_INDEX, Check.order(1, 1, 1, 1));
        dueIndex("2", LEAST_INDEX, GREATEST_INDEX, Check.order(2, 1, 0, 1));
        dueIndex("2", GREATEST_INDEX, LEAST_INDEX, Check.order(2, 1, 0, -1));
        dueIndex("3", GREATEST_INDEX, LEAST_INDEX, Check.order(3, 1, 0, 1));
        dueIndex("3", LEAST_INDEX, GREATEST_INDEX, Check.order(3, 1, 0, -1));
        dueIndex("3", LEAST_INDEX, 0, Check.order(3, 1, 0, 1 << 23));
        dueIndex("4", LEAST_INDEX, 0, Check.order(4, 1, 0, N));
        dueIndex("4", LEAST_INDEX, 0, Check.order(4, 1, 0, N + 1));
        dueIndex("4", GREATEST_INDEX, 0, Check.order(4, 1, 0, N + 2));
        dueIndex("4", -1, 0, Check.order(4, 1, 0, N + 3));
        dueIndex("10", GREATEST_INDEX, LEAST_INDEX, Check.order(10, 1, 0, 3));
        dueIndex("11", LEAST_INDEX, 0, Check.order(11, 1, 0, 0));
        dueAccumulator("12 of the least", LEAST_INDEX, row(Check.order(1, 1, 0, 1 << 23), Check.order(12, 1, 0, 0)));
        DrumMachine x = new DrumMachine();
        Check.take(x, 9, Check.order(1, 1, 0, 1 << 23), Check.order(5, 1, 0, 1023), Check.order(29, 2));
        x.run(40);
        Check.due("5 of the least", x.word(0, 1023), LEAST_INDEX);
    }

    /** "register 0 is 0 for ever". */
    private static void registerZeroIsZeroForEver() {
        long[] orders = {Check.order(1, 0, 0, 5), Check.order(2, 0, 0, 5), Check.order(3, 0, 0, 5), Check.order(4, 0, 0, N),
            Check.order(11, 0, 0, 0), Check.order(10, 0, 0, 3)};
        for (long order : orders) {
            DrumMachine x = ran(row(Check.order(16, N), order, Check.order(23, 0, 0, 9)), 77);
            Check.due("register 0 behind " + (order >> 38), x.register(0, 0), 0);
            Check.due("S by register 0 behind " + (order >> 38), x.register(0, -1), 9);
            Check.due("CONTROL behind " + (order >> 38), x.register(0, 128), 4);
        }
        dueAccumulator("12 of register 0", 0, row(Check.order(16, N), Check.order(12, 0, 0, 9)), 77);
    }

    /** "a STORE of 1024 WORDS, all 0 but those of its program, which stand from 0 on. At first all of these are 0." */
    private static void storeIsZeroButForTheProgram() {
        DrumMachine x = new DrumMachine();
        Check.fillTray(x, -1, -2, -3, -4, -5);
        x.job(9, 3);
        for (int i = 0; i < 200; i++) {
            Check.due("word(0, " + i + ")", x.word(0, i), i < 3 ? -1 - i : 0);
        }
        Check.due("word(0, 1023)", x.word(0, 1023), 0);
        for (int what = -1; what <= 128; what++) {
            Check.due("register(0, " + what + ")", x.register(0, what), 0);
        }
    }

    /** "from its highest bit on: f (10 bits), a (7), m (7), n (24)": the greatest of each beside zeros. */
    private static void partsOfAnInstruction() {
        DrumMachine x = ran(row(Check.order(1, 127, 0, -1), Check.order(1, 126, 127, 0), Check.order(23, 127, 126, 0)));
        Check.due("a = 127", x.register(0, 127), -1);
        Check.due("m = 127", x.register(0, 126), -1);
        Check.due("a = 127 and m = 126", x.register(0, -1), -2);
        for (int f : new int[] {511, 512, 1023, 512 + 34, 512 + 29, 256 + 34, 128 + 34, 64 + 34}) {
            x = Check.ran("", Check.order(f, 127, 127, -1));
            Check.due("f = " + f, x.ended(0), 3);
        }
        Check.due("a WORD of -1", Check.ran("", -1).ended(0), 3);
        Check.due("a WORD of 0", Check.ran("", 0).ended(0), 3);
    }

    /** "S is n + b[m] for f below 16, else n + b[a] + b[m]". */
    private static void addressesFrom16On() {
        long[] set = {Check.order(1, 1, 0, 1), Check.order(1, 2, 0, 2)};
        DrumMachine x = ran(row(set[0], set[1], Check.order(4, 1, 2, N)), 10, 11, 12, 13);
        Check.due("4: n + b[m]", x.register(0, 1), 12);
        x = ran(row(set[0], set[1], Check.order(7, 1, 2, 3), 0, 0));
        Check.due("7: n + b[m]", x.register(0, 128), 6);
        x = ran(row(Check.order(1, 1, 0, 2), set[1], Check.order(10, 1, 2, 3), 0, 0));
        Check.due("10: n + b[m]", x.register(0, 128), 6);
        dueAccumulator("16: n + b[a] + b[m]", 13, row(set[0], set[1], Check.order(16, 1, 2, N)), 10, 11, 12, 13);
        dueAccumulator("16: a = m", 12, row(set[0], set[1], Check.order(16, 1, 1, N)), 10, 11, 12, 13);
        x = ran(row(set[0], set[1], Check.order(29, 1, 2, 3), 0, 0, 0));
        Check.due("29: n + b[a] + b[m]", x.register(0, 128), 7);
        dueAccumulator("64: n + b[a] + b[m]", 7, row(set[0], set[1], Check.order(23, 91), Check.order(64, 1, 2, N)), 10, 11, 12, 13);
    }

    /** "in 24 bits, wrapping". */
    private static void addressesWrap() {
        long[] set = {Check.order(1, 1, 0, GREATEST_INDEX), Check.order(1, 2, 0, 1 << 23)};
        dueAccumulator("n + b[a]", LEAST_INDEX, row(set[0], Check.order(23, 1, 0, 1)));
        dueAccumulator("n + b[m]", LEAST_INDEX, row(set[0], Check.order(23, 0, 1, 1)));
        dueAccumulator("twice the greatest", -2, row(set[0], Check.order(23, 1, 1, 0)));
        dueAccumulator("thrice the greatest", GREATEST_INDEX - 2, row(set[0], Check.order(23, 1, 1, GREATEST_INDEX)));
        dueAccumulator("twice the least", 0, row(set[1], Check.order(23, 2, 2, 0)));
        dueAccumulator("thrice the least", LEAST_INDEX, row(set[1], Check.order(23, 2, 2, 1 << 23)));
        dueAccumulator("a word behind a wrap", 11, row(set[0], Check.order(16, 1, 1, N + 3)), 10, 11);
        DrumMachine x = ran(row(set[0], Check.order(29, 1, 1, 5), 0));
        Check.due("CONTROL behind a wrap", x.register(0, 128), 4);
    }

    /** Whether an order at 1, behind b[1] becomes v, goes to 3. */
    private static void dueIndexJump(int f, int v, boolean goes) {
        DrumMachine x = ran(row(Check.order(1, 1, 0, v), Check.order(f, 1, 0, 3), END));
        Check.due(f + " with " + v + ": CONTROL", x.register(0, 128), goes ? 4 : 3);
    }

    /** "6 goes to S if b[a] = 0. 7 if b[a] is not 0. 8 if b[a] >= 0. 9 if b[a] < 0." */
    private static void indexJumpsAtZero() {
        for (int v : new int[] {-1, 0, 1, LEAST_INDEX, GREATEST_INDEX}) {
            dueIndexJump(6, v, v == 0);
            dueIndexJump(7, v, v != 0);
            dueIndexJump(8, v, v >= 0);
            dueIndexJump(9, v, v < 0);
        }
    }

    /** "10 b[a] becomes b[a] - 1; goes to S if it is not 0 then." */
    private static void countingJumpAtOne() {
        dueIndexJump(10, 2, true);
        dueIndexJump(10, 1, false);
        dueIndexJump(10, 0, true);
        dueIndexJump(10, LEAST_INDEX, true);
        DrumMachine x = ran(row(Check.order(10, 0, 0, 3), Check.order(10, 0, 0, 3)));
        Check.due("10 of register 0, which is 0 then", x.register(0, 128), 3);
    }

    /** "24 goes to S if it is 0. 25 not 0. 26 >= 0. 27 < 0." */
    private static void accumulatorJumpsAtZero() {
        for (long v : new long[] {-1, 0, 1, LEAST, GREATEST, 1L << 24, -1L << 24}) {
            boolean[] goes = {v == 0, v != 0, v >= 0, v < 0};
            for (int f = 24; f <= 27; f++) {
                DrumMachine x = ran(row(Check.order(16, N), Check.order(f, 3), END), v);
                Check.due(f + " with " + v, x.register(0, 128), goes[f - 24] ? 4 : 3);
            }
        }
    }

    /** "28 is halved (downwards)." */
    private static void halvedDownwards() {
        dueOrder(28, -1, 0, -1);
        dueOrder(28, -2, 0, -1);
        dueOrder(28, -3, 0, -2);
        dueOrder(28, 1, 0, 0);
        dueOrder(28, 0, 0, 0);
        dueOrder(28, LEAST, 0, LEAST / 2);
        dueOrder(28, GREATEST, 0, GREATEST / 2);
    }

    /** "32 PRINTS the lowest 8 bits of the ACCUMULATOR." */
    private static void bytePrinted() {
        for (long v : new long[] {0, 255, 256, -1, -256, -255, LEAST, GREATEST}) {
            DrumMachine x = ran(row(Check.order(16, N), Check.order(32, 0)), v);
            Check.due("32 of " + v, x.out(0, 0), v & 255);
        }
    }

    /** "33 it becomes the next byte of the job's TAPE, -1 if none is left." */
    private static void tapeWithNoneLeft() {
        DrumMachine x = Check.ran("", Check.order(33, 0), END);
        Check.due("33 of an empty TAPE", x.register(0, -1), -1);
        x = Check.ran("\u00ff", Check.order(33, 0), END);
        Check.due("33 of the last byte", x.register(0, -1), 255);
        x = Check.ran("\u00ff", Check.order(33, 0), Check.order(33, 0), END);
        Check.due("33 behind the last byte", x.register(0, -1), -1);
        x = Check.ran("\u00ff", Check.order(33, 0), Check.order(33, 0), Check.order(33, 0), Check.order(33, 0), END);
        Check.due("33 far behind the last byte", x.register(0, -1), -1);
    }

    /** "64 the ACCUMULATOR becomes itself by the word at S, cut to 0. 65 the rest of that, with the ACCUMULATOR's sign." */
    private static void divisionIsCutToZero() {
        long[][] cases = {{7, 2}, {-7, 2}, {7, -2}, {-7, -2}, {1, 2}, {-1, 2}, {0, -1}, {LEAST + 1, -1}, {LEAST + 1, GREATEST},
            {GREATEST, GREATEST}, {GREATEST, LEAST + 1}, {5, GREATEST}, {-5, GREATEST}};
        for (long[] one : cases) {
            long quotient = Math.abs(one[0]) / Math.abs(one[1]) * Long.signum(one[0]) * Long.signum(one[1]);
            dueOrder(64, one[0], one[1], quotient);
            dueOrder(65, one[0], one[1], Math.abs(one[0]) % Math.abs(one[1]) * Long.signum(one[0]));
        }
    }

    /** "66 PRINTS it in digits, a - in front if it is below 0, no 0 in front of others, then the byte 10." */
    private static void numbersPrinted() {
        for (long v : new long[] {0, 9, 10, 11, 99, 100, 101, -1, -9, -10, -100, 1000000, GREATEST, LEAST, LEAST + 1,
            99999999999999L, 100000000000000L, -99999999999999L, -100000000000000L}) {
            DrumMachine x = ran(row(Check.order(16, N), Check.order(66, 0)), v);
            Check.dueText("66 of " + v, Check.output(x, 0), v + "\n");
        }
    }

    /** What 67 makes of a TAPE, and the byte that is next then, -1 if none is. */
    private static void dueRead(String tape, long number, int next) {
        DrumMachine x = Check.ran(tape, Check.order(67, 0), Check.order(66, 0), Check.order(33, 0), END);
        String name = "67 of \"" + tape.replace('\n', '/') + "\"";
        Check.dueText(name, Check.output(x, 0), number + "\n");
        Check.due(name + ": the byte behind", x.register(0, -1), next);
    }

    /** "bytes 32 and 10 .. are passed, then a -, if one is next, and digits; the byte behind them is taken, too; .. (0 without digits)". */
    private static void numbersReadAtTheEndOfTheTape() {
        dueRead("", 0, -1);
        dueRead(" ", 0, -1);
        dueRead("\n \n", 0, -1);
        dueRead("-", 0, -1);
        dueRead(" -", 0, -1);
        dueRead("7", 7, -1);
        dueRead("-7", -7, -1);
        dueRead("7 ", 7, -1);
        dueRead("7x", 7, -1);
        dueRead("7  ", 7, ' ');
        dueRead("x", 0, -1);
        dueRead("xy", 0, 'y');
        dueRead("-x7", 0, '7');
        dueRead("- 7", 0, '7');
        dueRead("--7", 0, '7');
        dueRead("-\n7", 0, '7');
        dueRead("7-8", 7, '8');
        dueRead("/7", 0, '7');
        dueRead(":7", 0, '7');
        dueRead("0/1", 0, '1');
        dueRead("9:1", 9, '1');
        dueRead("1\u00b02", 1, '2');
        dueRead("\u00007", 0, '7');
        dueRead("\t7", 0, '7');
        dueRead("\r7", 0, '7');
        dueRead("140737488355327", GREATEST, -1);
        dueRead("140737488355328", LEAST, -1);
        dueRead("-140737488355328", LEAST, -1);
        dueRead("-140737488355329", GREATEST, -1);
        dueRead("281474976710656", 0, -1);
        dueRead("18446744073709551617", 1, -1);
    }

    /** The same of a TAPE of 2000 bytes, all of them blanks or digits. */
    private static void numbersReadFromAWholeTape() {
        dueRead(" ".repeat(2000), 0, -1);
        dueRead(" ".repeat(1998) + "-5", -5, -1);
        dueRead("0".repeat(1999) + "6", 6, -1);
        dueRead("0".repeat(1998) + "6x", 6, -1);
        dueRead("0".repeat(1997) + "6xy", 6, 'y');
    }

    /** "68 becomes the greatest number whose square is not above it." */
    private static void rootsAtSquares() {
        for (long r : new long[] {1, 2, 3, 10, 4095, 4096, 8388607, 8388608, 11863282, 11863283}) {
            dueOrder(68, r * r - 1, 0, r - 1);
            dueOrder(68, r * r, 0, r);
            dueOrder(68, r * r + 1, 0, r);
        }
        dueOrder(68, 0, 0, 0);
        dueOrder(68, GREATEST, 0, 11863283);
    }
}
