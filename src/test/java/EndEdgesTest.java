/** The boundary cases of the ENDS of a job, and of their order, a method for each sentence. */
final class EndEdgesTest {
    private static final long LEAST = -(1L << 47);
    private static final long END = Check.order(34, 0);
    private static final int[] WITH_WORD = {4, 5, 16, 17, 18, 19, 20, 21, 22, 64, 65};

    public static void main(String[] args) {
        byOrder34();
        byTheLimit();
        byAnFThatIsNotTold();
        byControlOutsideTheStore();
        byAnAddressOutsideTheStore();
        noEndByAnAddressWithoutAWord();
        byTheBlockOfAWordTooMany();
        byTheBlockOfControlTooMany();
        byABlockTooManyWithoutAFreeFrame();
        noEndByABlockThatExists();
        byDivision();
        byRoot();
        byPrintingAByte();
        byPrintingANumber();
        theLimitComesFirst();
        controlComesBeforeF();
        fComesBeforeTheAddress();
        theAddressComesBeforeTheNumbers();
        aFaultChangesNothingElse();
        aFaultIsNotCounted();
        Check.finish();
    }

    private static void due(String what, DrumMachine x, int ended, int done, int control) {
        Check.due(what + ": ended", x.ended(0), ended);
        Check.due(what + ": done", x.done(0), done);
        Check.due(what + ": CONTROL", x.register(0, 128), control);
    }

    private static DrumMachine limited(int limit, long... program) {
        DrumMachine x = new DrumMachine();
        Check.take(x, limit, program);
        x.run(20000);
        return x;
    }

    /** A machine on which a job of one BLOCK has run for 100 ticks while 64 BLOCKS existed. */
    private static DrumMachine crowded(int limit, long... program) {
        DrumMachine x = new DrumMachine();
        Check.take(x, limit, program);
        long[] filler = new long[1000];
        filler[0] = Check.order(29, 0);
        Check.take(x, 10000, filler);
        Check.due("BLOCKS", x.told(5), 64);
        x.run(100);
        return x;
    }

    /** "1 by 34", which is done and counted. */
    private static void byOrder34() {
        due("34", limited(9, END), 1, 1, 1);
        due("34 as the last of the LIMIT", limited(1, END), 1, 1, 1);
        DrumMachine x = limited(99, Check.order(1, 1, 0, 7), Check.order(10, 1, 0, 1), Check.order(28, 0), Check.order(28, 0),
                Check.order(28, 0), Check.order(28, 0), Check.order(28, 0), Check.order(28, 0), Check.order(28, 0), END);
        due("34 as the 16th", x, 1, 16, 10);
        Check.due("ROUNDS behind the 16th", x.told(4), 1);
    }

    /** "2 its LIMIT of INSTRUCTIONS was done, and it goes on". */
    private static void byTheLimit() {
        due("LIMIT 1", limited(1, Check.order(23, 5), END), 2, 1, 1);
        due("LIMIT 2", limited(2, Check.order(23, 5), END), 1, 2, 2);
        DrumMachine x = limited(10000, Check.order(29, 0));
        due("LIMIT 10000", x, 2, 10000, 0);
        Check.due("clock: a tick more than its INSTRUCTIONS", x.clock(), 34 + 10001);
    }

    /** "3 an f that is not told": each beside one that is told. */
    private static void byAnFThatIsNotTold() {
        for (int f : new int[] {0, 13, 14, 15, 30, 31, 35, 36, 63, 69, 70, 96, 127, 128, 512, 1022, 1023}) {
            due("f = " + f, limited(9, Check.order(f, 0), END), 3, 0, 0);
        }
        for (int f : new int[] {1, 12, 23, 28, 32, 33, 66, 67, 68}) {
            due("f = " + f, limited(9, Check.order(f, 0), END), 1, 2, 2);
        }
    }

    /** "4 CONTROL .. is not 0 to 1023". */
    private static void byControlOutsideTheStore() {
        due("CONTROL 1024", limited(9, Check.order(29, 1024)), 4, 1, 1024);
        due("CONTROL -1", limited(9, Check.order(29, -1)), 4, 1, -1);
        due("CONTROL -16", limited(9, Check.order(29, -16)), 4, 1, -16);
        due("CONTROL 2^23 - 1", limited(9, Check.order(29, (1 << 23) - 1)), 4, 1, (1 << 23) - 1);
        due("CONTROL -2^23", limited(9, Check.order(29, 1 << 23)), 4, 1, -(1 << 23));
        due("CONTROL 1023 is in the STORE", limited(9, Check.order(29, 1023)), 3, 1, 1023);
        due("CONTROL 0 is in the STORE", limited(9, Check.order(29, 0)), 2, 9, 0);
        due("CONTROL 1024 behind 1023", limited(9, Check.order(16, 3), Check.order(20, 1023), Check.order(29, 1023),
                Check.order(28, 0)), 4, 4, 1024);
    }

    /** "4 .. S where a word at S is told, is not 0 to 1023". */
    private static void byAnAddressOutsideTheStore() {
        for (int f : WITH_WORD) {
            for (int s : new int[] {1024, -1, -16, (1 << 23) - 1, 1 << 23}) {
                DrumMachine x = limited(9, Check.order(23, 5), Check.order(f, s));
                due(f + " at " + s, x, 4, 1, 1);
                Check.due("MISSES", x.told(2), 1);
            }
            due(f + " at 1023 and 0", limited(2, Check.order(f, f < 64 ? 1023 : 0), Check.order(f, 0)), 2, 2, 2);
        }
    }

    /** "4 .. S where a word at S is told": no end by an S of other orders. */
    private static void noEndByAnAddressWithoutAWord() {
        for (int f : new int[] {1, 2, 3, 7, 9, 11, 12, 23, 25, 27, 28, 32, 33, 66, 67, 68}) {
            for (int s : new int[] {1024, -1, 1 << 23}) {
                int due = f == 67 ? 0 : f == 33 ? -1 : f == 23 ? s << 8 >> 8 : 0;
                DrumMachine x = limited(9, Check.order(f, s), END);
                due(f + " at " + s, x, 1, 2, 2);
                Check.due(f + " at " + s + ": the ACCUMULATOR", x.register(0, -1), due);
            }
        }
    }

    /** "5 STORE": "of all jobs together 64 exist at most: 5 if one more is wanted", by a word at S. */
    private static void byTheBlockOfAWordTooMany() {
        for (int f : WITH_WORD) {
            DrumMachine x = crowded(99, Check.order(23, 5), Check.order(f, 16));
            due(f + " at a BLOCK too many", x, 5, 1, 1);
            Check.due("BLOCKS behind it", x.told(5), 63);
            Check.due("MISSES: the two programs' first BLOCKS", x.told(2), 2);
        }
        DrumMachine x = new DrumMachine();
        long[] program = new long[992];
        program[0] = Check.order(20, 992);
        program[1] = Check.order(20, 1007);
        program[2] = Check.order(20, 1008);
        Check.take(x, 99, program);
        Check.take(x, 99, END);
        x.run(36);
        Check.due("BLOCKS: the last that may exist", x.told(5), 64);
        Check.due("ended(0)", x.ended(0), 0);
        x.run(1);
        due("a BLOCK more", x, 5, 2, 2);
        Check.due("BLOCKS behind it", x.told(5), 1);
    }

    /** The same by CONTROL. */
    private static void byTheBlockOfControlTooMany() {
        due("CONTROL at a BLOCK too many", crowded(99, Check.order(29, 16)), 5, 1, 16);
        due("CONTROL at the last BLOCK", crowded(99, Check.order(29, 1023)), 5, 1, 1023);
        long[] program = new long[16];
        program[0] = Check.order(29, 15);
        program[15] = Check.order(28, 0);
        due("CONTROL runs into a BLOCK too many", crowded(99, program), 5, 2, 16);
    }

    /** A job does not wait for a FRAME for a BLOCK that can't exist. */
    private static void byABlockTooManyWithoutAFreeFrame() {
        DrumMachine x = new DrumMachine();
        x.frames(3);
        long[] program = new long[992];
        program[0] = Check.order(16, 16);
        program[1] = Check.order(16, 32);
        program[2] = Check.order(20, 992);
        Check.take(x, 99, program);
        Check.take(x, 99, new long[32]);
        // The READS of the blocks 1 and 2 end at 68 and 102; block 1 is VICTIM since 70, its WRITE begins at 102.
        x.run(103);
        Check.due("WRITES", x.told(1), 1);
        Check.dueFrame(x, 1, 0, 1, 1, 0, 0);
        Check.dueFrame(x, 2, 0, 2, 0, 0, 0);
        Check.due("MISSES", x.told(2), 3);
        Check.due("done(0)", x.done(0), 2);
        x.run(1);
        due("a BLOCK too many without a free FRAME", x, 5, 2, 2);
        Check.due("MISSES", x.told(2), 3);
        Check.due("BLOCKS: the other job's, and the one that is written", x.told(5), 3);
    }

    /** "5 if one more is wanted": no end by a BLOCK that is one of the 64. */
    private static void noEndByABlockThatExists() {
        DrumMachine x = new DrumMachine();
        long[] program = new long[32];
        program[0] = Check.order(20, 16);
        program[1] = Check.order(29, 31);
        program[31] = END;
        Check.take(x, 99, program);
        Check.take(x, 99, new long[992]);
        Check.due("BLOCKS", x.told(5), 64);
        x.run(100);
        due("a BLOCK that exists", x, 1, 3, 32);
    }

    /** "6 64 or 65 by 0, or with the ACCUMULATOR or that word -2^47". */
    private static void byDivision() {
        long[][] faults = {{5, 0}, {-5, 0}, {0, 0}, {LEAST, 0}, {LEAST, 1}, {LEAST, -1}, {0, LEAST}, {1, LEAST}, {LEAST, LEAST}};
        long[][] others = {{LEAST + 1, -1}, {LEAST + 1, LEAST + 1}, {0, 1}, {0, -1}, {1, LEAST + 1}};
        for (int f = 64; f <= 65; f++) {
            for (long[] one : faults) {
                DrumMachine x = limited(9, Check.order(16, 3), Check.order(f, 4), END, one[0], one[1]);
                due(f + " of " + one[0] + " by " + one[1], x, 6, 1, 1);
                Check.due("the ACCUMULATOR", x.register(0, -1), one[0]);
            }
            for (long[] one : others) {
                due(f + " of " + one[0] + " by " + one[1],
                        limited(9, Check.order(16, 3), Check.order(f, 4), END, one[0], one[1]), 1, 3, 3);
            }
            due(f + " by a word of a new BLOCK", limited(9, Check.order(23, 5), Check.order(f, 16), END), 6, 1, 1);
        }
    }

    /** "6 .. 68 of a number below 0". */
    private static void byRoot() {
        for (long v : new long[] {-1, -4, LEAST}) {
            DrumMachine x = limited(9, Check.order(16, 3), Check.order(68, 0), END, v);
            due("68 of " + v, x, 6, 1, 1);
            Check.due("the ACCUMULATOR", x.register(0, -1), v);
        }
        due("68 of 0", limited(9, Check.order(68, 0), END), 1, 2, 2);
    }

    /** A program that PRINTS so many bytes of 1 by 32 and goes on with an order behind them. */
    private static DrumMachine printed(int bytes, long number, long order) {
        return limited(9999, Check.order(1, 1, 0, bytes), Check.order(23, 1), Check.order(32, 0), Check.order(10, 1, 0, 2),
                Check.order(16, 7), order, END, number);
    }

    /** "7 a byte is to be PRINTED and 400 were." */
    private static void byPrintingAByte() {
        DrumMachine x = printed(399, 66, Check.order(32, 0));
        due("the 400th byte", x, 1, 2 + 2 * 399 + 3, 7);
        Check.due("printed", x.printed(0), 400);
        Check.due("the 400th byte", x.out(0, 399), 66);
        x = printed(400, 66, Check.order(32, 0));
        due("the 401st byte", x, 7, 2 + 2 * 400 + 1, 5);
        Check.due("printed", x.printed(0), 400);
        Check.due("the 400th byte", x.out(0, 399), 1);
        Check.due("no 401st byte", x.out(0, 400), -1);
        due("no byte behind 400", printed(400, 66, Check.order(28, 0)), 1, 2 + 2 * 400 + 3, 7);
    }

    private static void dueTail(int bytes, long number, String tail, int ended) {
        String name = "66 of " + number + " behind " + bytes + " bytes";
        DrumMachine x = printed(bytes, number, Check.order(66, 0));
        Check.due(name + ": ended", x.ended(0), ended);
        Check.due(name + ": done", x.done(0), 2 + 2 * bytes + (ended == 1 ? 3 : 1));
        Check.due(name + ": CONTROL", x.register(0, 128), ended == 1 ? 7 : 5);
        Check.due(name + ": the ACCUMULATOR", x.register(0, -1), number);
        Check.dueText(name, Check.output(x, 0).substring(bytes), tail);
    }

    /** "(what it PRINTED up to there stays)". */
    private static void byPrintingANumber() {
        dueTail(395, -120, "-120\n", 1);
        dueTail(396, -120, "-120", 7);
        dueTail(397, -120, "-12", 7);
        dueTail(398, -120, "-1", 7);
        dueTail(399, -120, "-", 7);
        dueTail(400, -120, "", 7);
        dueTail(398, 0, "0\n", 1);
        dueTail(399, 0, "0", 7);
        dueTail(400, 0, "", 7);
        dueTail(383, LEAST, "-140737488355328\n", 1);
        dueTail(384, LEAST, "-140737488355328", 7);
    }

    /** "Of one INSTRUCTION: 2, then 4 and 5 for CONTROL, 3": LIMIT is looked at before all others. */
    private static void theLimitComesFirst() {
        due("LIMIT before 4 for CONTROL", limited(1, Check.order(29, 1024)), 2, 1, 1024);
        due("LIMIT before 5 for CONTROL", crowded(1, Check.order(29, 16)), 2, 1, 16);
        due("LIMIT before 3", limited(1, Check.order(28, 0), Check.order(0, 0)), 2, 1, 1);
        due("LIMIT before 4 for S", limited(1, Check.order(28, 0), Check.order(16, 1024)), 2, 1, 1);
        due("LIMIT before 5 for S", crowded(1, Check.order(28, 0), Check.order(16, 16)), 2, 1, 1);
        due("LIMIT before 6", limited(1, Check.order(23, -1), Check.order(68, 0)), 2, 1, 1);
        due("LIMIT before 1", limited(1, Check.order(23, -1), END), 2, 1, 1);
        due("LIMIT before 7", limited(800, Check.order(32, 0), Check.order(29, 0)), 2, 800, 0);
        long[] program = new long[17];
        program[0] = Check.order(29, 16);
        DrumMachine x = limited(1, program);
        due("LIMIT before the BLOCK of CONTROL is brought", x, 2, 1, 16);
        Check.due("MISSES", x.told(2), 1);
        Check.due("clock", x.clock(), 36);
    }

    /** "then 4 and 5 for CONTROL, 3": a WORD of a BLOCK that is new would be 0, which is no f that is told. */
    private static void controlComesBeforeF() {
        due("5 for CONTROL before 3", crowded(99, Check.order(29, 500)), 5, 1, 500);
        due("4 for CONTROL before 5", crowded(99, Check.order(29, 1024)), 4, 1, 1024);
        due("4 for CONTROL before 5, below 0", crowded(99, Check.order(29, -1)), 4, 1, -1);
        due("3 where CONTROL is in a new BLOCK", limited(99, Check.order(29, 500)), 3, 1, 500);
    }

    /** "3, 4 and 5 for S". */
    private static void fComesBeforeTheAddress() {
        due("3 before 4 for S", limited(9, Check.order(31, 1024)), 3, 0, 0);
        due("3 before 5 for S", crowded(9, Check.order(31, 500)), 3, 0, 0);
        due("4 for S before 5", crowded(9, Check.order(16, 1024)), 4, 0, 0);
        due("4 for S before 5, below 0", crowded(9, Check.order(16, -1)), 4, 0, 0);
    }

    /** "4 and 5 for S, then 6 or 7". */
    private static void theAddressComesBeforeTheNumbers() {
        for (int f = 64; f <= 65; f++) {
            due(f + ": 4 before 6", limited(9, Check.order(16, 3), Check.order(f, 1024), END, LEAST), 4, 1, 1);
            due(f + ": 5 before 6", crowded(9, Check.order(16, 3), Check.order(f, 500), END, LEAST), 5, 1, 1);
        }
    }

    /** "An INSTRUCTION that ends a job by 3 to 7 changes nothing else". */
    private static void aFaultChangesNothingElse() {
        long[] faults = {Check.order(13, 1, 0, 9), Check.order(4, 1, 0, 1024), Check.order(5, 1, 0, -1), Check.order(20, 1024),
            Check.order(21, 1024), Check.order(64, 16), Check.order(65, 16), Check.order(68, 0)};
        for (long fault : faults) {
            DrumMachine x = limited(9, Check.order(1, 1, 0, 77), Check.order(23, -5), fault, END);
            String name = "f = " + (fault >> 38);
            Check.due(name + ": b[1]", x.register(0, 1), 77);
            Check.due(name + ": the ACCUMULATOR", x.register(0, -1), -5);
            Check.due(name + ": CONTROL", x.register(0, 128), 2);
            Check.due(name + ": done", x.done(0), 2);
            Check.due(name + ": printed", x.printed(0), 0);
        }
    }

    /** "and is not counted as done": it is none of the 16 of a ROUND; neither is an end by the LIMIT. */
    private static void aFaultIsNotCounted() {
        long[] orders = {Check.order(0, 0), Check.order(16, 1024), Check.order(64, 900), Check.order(28, 0)};
        for (int i = 0; i < orders.length; i++) {
            DrumMachine x = new DrumMachine();
            Check.take(x, i == 3 ? 15 : 99, Check.order(1, 1, 0, 13), Check.order(10, 1, 0, 1), Check.order(28, 0), orders[i]);
            Check.take(x, 99, Check.order(29, 0));
            x.run(49);
            Check.due("done(0)", x.done(0), 15);
            Check.due("ended(0)", x.ended(0), 0);
            x.run(1);
            Check.due("ended(0)", x.ended(0), new int[] {3, 4, 6, 2}[i]);
            Check.due("done(0)", x.done(0), 15);
            Check.due("ROUNDS behind 15 and an end", x.told(4), 0);
            x.run(1);
            Check.due("done(1)", x.done(1), 1);
            Check.due("ROUNDS behind the 16th", x.told(4), 1);
        }
    }
}
