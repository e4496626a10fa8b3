import java.util.Random;

/** Runs of drawn calls on the program and on the plain model, which have to answer alike. */
final class ModelTest {
    private static final int[] KNOWN = {1, 2, 3, 4, 5, 6, 7, 8, 9, 10, 11, 12, 16, 17, 18, 19, 20, 21, 22, 23, 24,
        25, 26, 27, 28, 29, 32, 33, 64, 65, 66, 67, 68};
    private static final int[] HARMLESS = {1, 2, 3, 4, 5, 11, 12, 16, 17, 18, 19, 20, 21, 22, 23, 28, 33, 67};
    private static final int[] WITH_WORD = {4, 5, 16, 18, 19, 20, 20, 21};
    private static final String BYTES = "0123456789-  \nx";
    private static final int[] seen = new int[8];

    public static void main(String[] args) {
        int runs = args.length > 0 ? Integer.parseInt(args[0]) : 250;
        long first = args.length > 1 ? Long.parseLong(args[1]) : 1;
        for (long seed = first; seed < first + runs; seed++) {
            oneRun(seed);
        }
        for (int how = 1; how <= 7; how++) {
            Check.due("an end by " + how + " was drawn", seen[how] > 0 ? 1 : 0, 1);
        }
        Check.finish();
    }

    private static void oneRun(long seed) {
        Random draw = new Random(seed);
        DrumMachine x = new DrumMachine();
        PlainModel y = new PlainModel();
        int f = draw.nextInt(4) == 0 ? 7 : 2 + draw.nextInt(draw.nextBoolean() ? 6 : 17);
        same(seed, "frames", x.frames(f), y.frames(f));
        int jobs = 1 + draw.nextInt(12);
        for (int step = 0; step < 60; step++) {
            if (jobs > 0 && draw.nextInt(3) != 0) {
                jobs--;
                handIn(seed, draw, x, y);
            }
            int ticks = draw.nextInt(5) == 0 ? draw.nextInt(3000) : draw.nextInt(90);
            same(seed, "run", x.run(ticks), y.run(ticks));
            compare(seed, draw, x, y);
        }
        same(seed, "last run", x.run(20000), y.run(20000));
        compareAll(seed, x, y);
        for (int j = 0; j < 12; j++) {
            if (x.ended(j) > 0) {
                seen[x.ended(j)]++;
            }
        }
    }

    private static void same(long seed, String call, long got, long want) {
        Check.due("seed " + seed + ": " + call, got, want);
    }

    private static void handIn(long seed, Random draw, DrumMachine x, PlainModel y) {
        long[] program = draw.nextInt(4) == 0 ? wildProgram(draw) : walkingProgram(draw);
        for (int i = 0; i < program.length; i += 5) {
            long[] five = new long[5];
            System.arraycopy(program, i, five, 0, Math.min(5, program.length - i));
            same(seed, "words", x.words(five[0], five[1], five[2], five[3], five[4]), y.words(five));
        }
        int pieces = draw.nextInt(4);
        for (int i = 0; i < pieces; i++) {
            long a = drawnBytes(draw);
            long b = drawnBytes(draw);
            long c = draw.nextLong();
            int n = draw.nextInt(36) - 1;
            same(seed, "bytes", x.bytes(a, b, c, a, n), y.bytes(a, b, c, a, n));
        }
        int limit = draw.nextInt(6) == 0 ? 1 + draw.nextInt(40) : draw.nextInt(3) == 0 ? 9000 + draw.nextInt(1200) : 1 + draw.nextInt(700);
        same(seed, "job", x.job(limit, program.length), y.job(limit, program.length));
    }

    private static long drawnBytes(Random draw) {
        long packed = 0;
        for (int i = 0; i < 8; i++) {
            packed = packed << 8 | BYTES.charAt(draw.nextInt(BYTES.length()));
        }
        return packed;
    }

    private static int pick(Random draw, int[] row) {
        return row[draw.nextInt(row.length)];
    }

    /** Mostly known orders on near addresses: such jobs end soon and in many ways. */
    private static long[] wildProgram(Random draw) {
        long[] program = new long[1 + draw.nextInt(draw.nextInt(5) == 0 ? 300 : 60)];
        for (int i = 0; i < program.length; i++) {
            int f = draw.nextInt(40) == 0 ? draw.nextInt(80) : pick(draw, KNOWN);
            int n = draw.nextInt(20) == 0 ? draw.nextInt() : draw.nextInt(program.length + 40);
            program[i] = draw.nextInt(40) == 0 ? draw.nextLong()
                    : Check.order(f, draw.nextInt(3), draw.nextInt(3), n);
        }
        return program;
    }

    /** Loops that walk through their STORE by strides, with code in some BLOCKS far from each other. */
    private static long[] walkingProgram(Random draw) {
        int loops = 1 + draw.nextInt(4);
        int apart = 8 + draw.nextInt(40);
        int reach = 1 + draw.nextInt(draw.nextInt(3) == 0 ? 1020 : 300);
        long[] program = new long[loops * apart];
        for (int i = 0; i < program.length; i++) {
            program[i] = draw.nextLong();
        }
        for (int loop = 0; loop < loops; loop++) {
            int at = loop * apart;
            program[at] = Check.order(1, 1, 0, 1 + draw.nextInt(60));
            program[at + 1] = Check.order(1, 2, 0, draw.nextInt(reach));
            int body = draw.nextInt(apart - 6) + 1;
            for (int i = 0; i < body; i++) {
                program[at + 2 + i] = bodyOrder(draw, reach);
            }
            int stride = draw.nextInt(3) == 0 ? -16 : draw.nextInt(40);
            program[at + 2 + body] = Check.order(2, 2, 0, stride);
            program[at + 3 + body] = Check.order(10, 1, 0, at + 2);
            program[at + 4 + body] = loop + 1 < loops ? Check.order(29, at + apart) : lastOrder(draw);
        }
        return program;
    }

    private static long bodyOrder(Random draw, int reach) {
        int kind = draw.nextInt(8);
        if (kind < 3) {
            return Check.order(pick(draw, WITH_WORD), 0, 2, 0);
        }
        if (kind < 5) {
            return Check.order(pick(draw, HARMLESS), 0, 0, draw.nextInt(reach));
        }
        if (kind == 5 && draw.nextInt(6) == 0) {
            return Check.order(66 - 34 * draw.nextInt(2), 0);
        }
        return Check.order(pick(draw, new int[] {1, 2, 3, 11, 12, 23, 28}), 3 + draw.nextInt(2), 3, draw.nextInt());
    }

    private static long lastOrder(Random draw) {
        int kind = draw.nextInt(5);
        if (kind == 0) {
            return Check.order(34, 0);
        }
        return kind == 1 ? Check.order(29, draw.nextInt(1100)) : Check.order(29, 0);
    }

    private static void compare(long seed, Random draw, DrumMachine x, PlainModel y) {
        same(seed, "digest", x.digest(), y.digest());
        for (int d = 0; d < 64; d++) {
            same(seed, "sector", x.sector(d), y.sector(d));
        }
        int j = draw.nextInt(14) - 1;
        int what = draw.nextInt(132) - 2;
        same(seed, "register", x.register(j, what), y.register(j, what));
        int address = draw.nextInt(1030) - 3;
        same(seed, "word", x.word(j, address), y.word(j, address));
    }

    private static void compareAll(long seed, DrumMachine x, PlainModel y) {
        same(seed, "digest", x.digest(), y.digest());
        same(seed, "clock", x.clock(), y.clock());
        for (int j = -1; j <= 12; j++) {
            same(seed, "ended", x.ended(j), y.ended(j));
            same(seed, "done", x.done(j), y.done(j));
            same(seed, "printed", x.printed(j), y.printed(j));
            for (int i = -1; i <= 400; i++) {
                same(seed, "out", x.out(j, i), y.out(j, i));
            }
            for (int what = -2; what <= 129; what++) {
                same(seed, "register", x.register(j, what), y.register(j, what));
            }
            for (int address = -1; address <= 1024; address++) {
                same(seed, "word", x.word(j, address), y.word(j, address));
            }
        }
        for (int what = -1; what <= 8; what++) {
            same(seed, "told", x.told(what), y.told(what));
        }
    }
}
