/** What each order does, told by registers, words, bytes and counts: promises 6 to 12 and the term ORDERS. */
final class OrdersTest {
    private static final long LEAST = -(1L << 47);
    private static final long GREATEST = (1L << 47) - 1;
    private static final int FAR = 40;

    public static void main(String[] args) {
        indexOrders();
        indexJumps();
        addresses();
        accumulatorOrders();
        accumulatorJumps();
        stores();
        tape();
        division();
        printedNumbers();
        readNumbers();
        roots();
        registersOfNothing();
        Check.finish();
    }

    private static long[] row(long... orders) {
        return orders;
    }

    /** Runs orders, order 34 behind them, with numbers at word 40 and on; answers the machine. */
    private static DrumMachine ran(long[] orders, long... numbers) {
        long[] program = java.util.Arrays.copyOf(orders, FAR + numbers.length);
        program[orders.length] = Check.order(34, 0);
        System.arraycopy(numbers, 0, program, FAR, numbers.length);
        return Check.ran("", program);
    }

    private static void dueIndex(String what, long due, int r, long... orders) {
        DrumMachine x = ran(orders, 0x123456789abcL, 0xffffffL);
        Check.due(what + ": ended", x.ended(0), 1);
        Check.due(what + ": done", x.done(0), orders.length + 1);
        Check.due(what + ": CONTROL", x.register(0, 128), orders.length + 1);
        Check.due(what, x.register(0, r), due);
    }

    private static void indexOrders() {
        dueIndex("1", 77, 5, Check.order(1, 5, 0, 77));
        dueIndex("1 of the greatest", 8388607, 5, Check.order(1, 5, 0, 8388607));
        dueIndex("1 of the least", -8388608, 5, Check.order(1, 5, 0, 8388608));
        dueIndex("1 of minus one", -1, 127, Check.order(1, 127, 0, -1));
        dueIndex("1 of register 0", 0, 0, Check.order(1, 0, 0, 77));
        dueIndex("1 with m = a", 8, 5, Check.order(1, 5, 0, 3), Check.order(1, 5, 5, 5));
        dueIndex("2", 10, 5, Check.order(1, 5, 0, 7), Check.order(2, 5, 0, 3));
        dueIndex("2 with m = a", 17, 5, Check.order(1, 5, 0, 7), Check.order(2, 5, 5, 3));
        dueIndex("2 wraps", -8388608, 5, Check.order(1, 5, 0, 8388607), Check.order(2, 5, 0, 1));
        dueIndex("3", 4, 5, Check.order(1, 5, 0, 7), Check.order(3, 5, 0, 3));
        dueIndex("3 wraps", 8388607, 5, Check.order(1, 5, 0, 8388608), Check.order(3, 5, 0, 1));
        dueIndex("2 of register 0", 0, 0, Check.order(2, 0, 0, 3));
        dueIndex("4", 0x789abc, 5, Check.order(4, 5, 0, FAR));
        dueIndex("4 has a sign", -1, 5, Check.order(4, 5, 0, FAR + 1));
        dueIndex("4 by m", 0x789abc, 5, Check.order(1, 6, 0, 30), Check.order(4, 5, 6, FAR - 30));
        dueIndex("11", 0x789abc, 5, Check.order(16, FAR), Check.order(11, 5, 0, 0));
        dueIndex("12", -3, -1, Check.order(1, 5, 0, -3), Check.order(12, 5, 0, 99));
        dueIndex("12 of register 0", 0, -1, Check.order(23, 9), Check.order(12, 0, 0, 99));
    }

    /** Whether an order at 1, behind b[1] becomes v, goes to 3. */
    private static void dueJump(int f, int v, boolean goes) {
        DrumMachine x = Check.ran("", Check.order(1, 1, 0, v), Check.order(f, 1, 0, 3), Check.order(34, 0),
                Check.order(34, 0));
        Check.due(f + " with " + v + ": CONTROL", x.register(0, 128), goes ? 4 : 3);
        Check.due(f + " with " + v + ": done", x.done(0), 3);
        Check.due(f + " with " + v + ": b[1]", x.register(0, 1), f == 10 ? (v == -8388608 ? 8388607 : v - 1) : v);
    }

    private static void indexJumps() {
        int[] values = {-8388608, -1, 0, 1, 2, 8388607};
        for (int v : values) {
            dueJump(6, v, v == 0);
            dueJump(7, v, v != 0);
            dueJump(8, v, v >= 0);
            dueJump(9, v, v < 0);
            dueJump(10, v, v != 1);
        }
        DrumMachine x = Check.ran("", Check.order(10, 0, 0, 3), Check.order(34, 0));
        Check.due("10 of register 0 does not go", x.register(0, 128), 2);
        x = Check.ran("", Check.order(1, 2, 0, 4), Check.order(29, 0, 2, -1), 0, Check.order(34, 0));
        Check.due("a jump by m", x.register(0, 128), 4);
    }

    private static void addresses() {
        DrumMachine x = ran(row(Check.order(1, 1, 0, 1), Check.order(1, 2, 0, 2), Check.order(16, 1, 2, FAR)), 10, 20, 30, 40);
        Check.due("S is n + b[a] + b[m] from 16 on", x.register(0, -1), 40);
        x = ran(row(Check.order(1, 1, 0, 1), Check.order(16, 1, 1, FAR)), 10, 20, 30, 40);
        Check.due("S with a = m", x.register(0, -1), 30);
        x = ran(row(Check.order(1, 1, 0, 8388607), Check.order(23, 1, 1, 3)));
        Check.due("S wraps at 24 bits", x.register(0, -1), 1);
        x = ran(row(Check.order(1, 1, 0, 8388607), Check.order(23, 1, 0, 1)));
        Check.due("S wraps to the least", x.register(0, -1), -8388608);
        x = ran(row(Check.order(1, 1, 0, -1), Check.order(16, 1, 0, FAR + 1)), 10, 20);
        Check.due("S with a register below 0", x.register(0, -1), 10);
        x = ran(row(Check.order(1, 15, 0, 9), Check.order(12, 15, 0, 0), Check.order(23, 0, 0, 4)));
        Check.due("23 without registers", x.register(0, -1), 4);
    }

    private static void dueAccumulator(String what, int f, long before, long operand, long due) {
        DrumMachine x = ran(row(Check.order(16, FAR), Check.order(f, FAR + 1)), before, operand);
        Check.due(what + ": ended", x.ended(0), 1);
        Check.due(what, x.register(0, -1), due);
    }

    private static void accumulatorOrders() {
        dueAccumulator("16", 16, 5, LEAST, LEAST);
        dueAccumulator("17", 17, 5, 9, -9);
        dueAccumulator("17 of the least", 17, 5, LEAST, LEAST);
        dueAccumulator("18", 18, 5, -9, -4);
        dueAccumulator("18 wraps", 18, GREATEST, 1, LEAST);
        dueAccumulator("19", 19, 5, -9, 14);
        dueAccumulator("19 wraps", 19, LEAST, 1, GREATEST);
        dueAccumulator("21", 21, -7, 6, -42);
        dueAccumulator("21 wraps", 21, 1L << 24, 1L << 23, LEAST);
        dueAccumulator("21 of great ones", 21, GREATEST, GREATEST, 1);
        dueAccumulator("21 of the least", 21, LEAST, LEAST, 0);
        dueAccumulator("22", 22, 0b1100, 0b1010, 0b1000);
        dueAccumulator("22 of signs", 22, -1, LEAST, LEAST);
        dueAccumulator("28", 28, 7, 0, 3);
        dueAccumulator("28 downwards", 28, -7, 0, -4);
        dueAccumulator("28 of -1", 28, -1, 0, -1);
        dueAccumulator("28 of the least", 28, LEAST, 0, -(1L << 46));
    }

    private static void accumulatorJumps() {
        long[] values = {LEAST, -1, 0, 1, GREATEST};
        for (long v : values) {
            boolean[] goes = {v == 0, v != 0, v >= 0, v < 0};
            for (int f = 24; f <= 27; f++) {
                DrumMachine x = ran(row(Check.order(16, FAR), Check.order(f, 3), Check.order(34, 0)), v);
                Check.due(f + " with " + v, x.register(0, 128), goes[f - 24] ? 4 : 3);
                Check.due(f + " leaves the ACCUMULATOR", x.register(0, -1), v);
            }
        }
        DrumMachine x = ran(row(Check.order(29, 3), 0, 0));
        Check.due("29", x.register(0, 128), 4);
    }

    private static void stores() {
        DrumMachine x = new DrumMachine();
        Check.take(x, 999, Check.order(1, 1, 0, -5), Check.order(5, 1, 0, 100), Check.order(16, 8), Check.order(20, 1023),
                Check.order(20, 6), Check.order(29, 5), 0, 0, LEAST + 3);
        x.run(200);
        Check.due("5 has a sign", x.word(0, 100), -5);
        Check.due("20 to the last word", x.word(0, 1023), LEAST + 3);
        Check.due("20 to its own block", x.word(0, 6), LEAST + 3);
        Check.due("its neighbour", x.word(0, 7), 0);
        Check.due("a word of a block that does not exist", x.word(0, 500), 0);
        Check.due("word(0, -1)", x.word(0, -1), 0);
        Check.due("word(0, 1024)", x.word(0, 1024), 0);
        Check.due("word(1, 100)", x.word(1, 100), 0);
        Check.due("word(-1, 100)", x.word(-1, 100), 0);
        Check.due("word of the program", x.word(0, 0), Check.order(1, 1, 0, -5));
    }

    private static void tape() {
        DrumMachine x = Check.ran("\u00ff\u0000", Check.order(33, 0), Check.order(11, 1, 0, 0), Check.order(33, 0),
                Check.order(11, 2, 0, 0), Check.order(33, 0), Check.order(32, 0), Check.order(33, 0), Check.order(34, 0));
        Check.due("33 of byte 255", x.register(0, 1), 255);
        Check.due("33 of byte 0", x.register(0, 2), 0);
        Check.due("33 of none", x.register(0, -1), -1);
        Check.due("32 takes the lowest 8 bits", x.out(0, 0), 255);
        Check.due("printed", x.printed(0), 1);
        Check.due("out(0, 1)", x.out(0, 1), -1);
        Check.due("out(0, -1)", x.out(0, -1), -1);
        Check.due("out(1, 0)", x.out(1, 0), -1);
        Check.due("out(0, greatest)", x.out(0, Integer.MAX_VALUE), -1);
        Check.due("out(0, least)", x.out(0, Integer.MIN_VALUE), -1);
    }

    private static void division() {
        long[][] cases = {{7, 2, 3, 1}, {-7, 2, -3, -1}, {7, -2, -3, 1}, {-7, -2, 3, -1}, {0, 5, 0, 0}, {3, 5, 0, 3},
            {-3, 5, 0, -3}, {GREATEST, 1, GREATEST, 0}, {GREATEST, -1, -GREATEST, 0}, {LEAST + 1, GREATEST, -1, 0}};
        for (long[] one : cases) {
            dueAccumulator("64 of " + one[0] + " by " + one[1], 64, one[0], one[1], one[2]);
            dueAccumulator("65 of " + one[0] + " by " + one[1], 65, one[0], one[1], one[3]);
        }
        long[][] faults = {{5, 0}, {LEAST, 2}, {2, LEAST}, {LEAST, LEAST}, {0, 0}, {LEAST, 0}, {0, LEAST}};
        for (long[] one : faults) {
            for (int f = 64; f <= 65; f++) {
                DrumMachine x = ran(row(Check.order(16, FAR), Check.order(f, FAR + 1)), one);
                Check.due(f + " of " + one[0] + " by " + one[1], x.ended(0), 6);
                Check.due("done", x.done(0), 1);
                Check.due("CONTROL", x.register(0, 128), 1);
                Check.due("the ACCUMULATOR stays", x.register(0, -1), one[0]);
            }
        }
    }

    private static void printedNumbers() {
        long[] values = {0, 1, -1, 9, 10, -10, 100, 1000007, 999999999999L, LEAST, GREATEST, LEAST + 1, 100000000000000L};
        for (long v : values) {
            DrumMachine x = ran(row(Check.order(16, FAR), Check.order(66, 0)), v);
            Check.dueText("66 of " + v, Check.output(x, 0), v + "\n");
            Check.due("66 leaves the ACCUMULATOR", x.register(0, -1), v);
        }
    }

    private static void readNumbers() {
        readOne("12", 12, -1);
        readOne("12 34", 12, '3');
        readOne("12\n\n34", 12, '\n');
        readOne("  \n\n  -12x5", -12, '5');
        readOne("007,8", 7, '8');
        readOne("", 0, -1);
        readOne("   ", 0, -1);
        readOne("-", 0, -1);
        readOne("- 5", 0, '5');
        readOne("x5", 0, '5');
        readOne("--5", 0, '5');
        readOne("5-6", 5, '6');
        readOne("\t5", 0, '5');
        readOne("140737488355327 ", GREATEST, -1);
        readOne("140737488355328 ", LEAST, -1);
        readOne("-140737488355328 ", LEAST, -1);
        readOne("281474976710657 ", 1, -1);
        readOne("-99999999999999999999999999999999999999x7", wrapped("-99999999999999999999999999999999999999"), '7');
    }

    private static long wrapped(String digits) {
        long low = new java.math.BigInteger(digits).longValue();
        return low << 16 >> 16;
    }

    private static void readOne(String text, long number, long next) {
        DrumMachine x = new DrumMachine();
        Check.take(x, 99, text, Check.order(67, 0), Check.order(20, 100), Check.order(33, 0), Check.order(29, 3));
        x.run(100);
        Check.due("67 of \"" + text + "\"", x.word(0, 100), number);
        Check.due("the byte behind 67 of \"" + text + "\"", x.register(0, -1), next);
    }

    private static void roots() {
        long[][] cases = {{0, 0}, {1, 1}, {2, 1}, {3, 1}, {4, 2}, {8, 2}, {9, 3}, {99, 9}, {100, 10}, {GREATEST, 11863283},
            {11863283L * 11863283L, 11863283}, {11863283L * 11863283L - 1, 11863282}, {1L << 46, 1L << 23}};
        for (long[] one : cases) {
            dueAccumulator("68 of " + one[0], 68, one[0], 0, one[1]);
        }
        for (long v : new long[] {-1, LEAST}) {
            DrumMachine x = ran(row(Check.order(16, FAR), Check.order(68, 0)), v);
            Check.due("68 of " + v, x.ended(0), 6);
            Check.due("the ACCUMULATOR behind 68 of " + v, x.register(0, -1), v);
        }
    }

    private static void registersOfNothing() {
        DrumMachine x = ran(row(Check.order(1, 127, 0, 6), Check.order(23, 9)));
        Check.due("register(0, 127)", x.register(0, 127), 6);
        Check.due("register(0, 128)", x.register(0, 128), 3);
        Check.due("register(0, 129)", x.register(0, 129), 0);
        Check.due("register(0, -2)", x.register(0, -2), 0);
        Check.due("register(0, least)", x.register(0, Integer.MIN_VALUE), 0);
        Check.due("register(0, greatest)", x.register(0, Integer.MAX_VALUE), 0);
        Check.due("register(1, -1)", x.register(1, -1), 0);
        Check.due("register(-1, 128)", x.register(-1, 128), 0);
        Check.due("word of a job that ended", x.word(0, 0), 0);
    }
}
