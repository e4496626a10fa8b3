import java.nio.charset.StandardCharsets;

/** What the tests share: comparing answers, writing INSTRUCTIONS, and handing in jobs. */
final class Check {
    private static int asked = 0;
    private static int wrong = 0;

    private Check() {
    }

    static void due(String what, long got, long want) {
        asked++;
        if (got != want) {
            wrong++;
            System.out.println(what + " answered " + got + ", due is " + want);
        }
    }

    /** Ends the test, with exit code 1 if an answer was not the one that is due. */
    static void finish() {
        System.out.println(wrong == 0 ? "all " + asked + " answers are as due" : wrong + " of " + asked + " answers are not as due");
        if (wrong != 0) {
            System.exit(1);
        }
    }

    static long order(int f, int a, int m, int n) {
        return (long) f << 38 | (long) a << 31 | (long) m << 24 | n & 0xffffff;
    }

    /** An INSTRUCTION without B-REGISTERS. */
    static long order(int f, int n) {
        return order(f, 0, 0, n);
    }

    static void fillTray(DrumMachine x, long... program) {
        for (int i = 0; i < program.length; i += 5) {
            x.words(at(program, i), at(program, i + 1), at(program, i + 2), at(program, i + 3), at(program, i + 4));
        }
    }

    private static long at(long[] row, int i) {
        return i < row.length ? row[i] : 0;
    }

    static void fillTape(DrumMachine x, byte[] tape) {
        for (int i = 0; i < tape.length; i += 32) {
            int n = Math.min(32, tape.length - i);
            x.bytes(eight(tape, i), eight(tape, i + 8), eight(tape, i + 16), eight(tape, i + 24), n);
        }
    }

    private static long eight(byte[] row, int from) {
        long packed = 0;
        for (int i = from; i < from + 8; i++) {
            packed = packed << 8 | (i < row.length ? row[i] & 255 : 0);
        }
        return packed;
    }

    /** Hands in a job whose TAPE is a text, and answers its number. */
    static int take(DrumMachine x, int limit, String tape, long... program) {
        fillTray(x, program);
        fillTape(x, tape.getBytes(StandardCharsets.ISO_8859_1));
        return x.job(limit, program.length);
    }

    static int take(DrumMachine x, int limit, long... program) {
        return take(x, limit, "", program);
    }

    /** A new machine that has run one job to its end. */
    static DrumMachine ran(String tape, long... program) {
        DrumMachine x = new DrumMachine();
        take(x, 10000, tape, program);
        for (int i = 0; i < 50 && x.run(20000) > 0; i++) {
            continue;
        }
        return x;
    }

    static String output(DrumMachine x, int j) {
        StringBuilder text = new StringBuilder();
        for (int i = 0; i < x.printed(j); i++) {
            text.append((char) x.out(j, i));
        }
        return text.toString();
    }

    static void dueText(String what, String got, String want) {
        asked++;
        if (!got.equals(want)) {
            wrong++;
            System.out.println(what + " answered \"" + got + "\", due is \"" + want + "\"");
        }
    }

    static void dueFrame(DrumMachine x, int f, int... due) {
        for (int what = 0; what < due.length; what++) {
            due("clock " + x.clock() + ": frame(" + f + ", " + what + ")", x.frame(f, what), due[what]);
        }
    }

    static void dueFree(DrumMachine x, int f) {
        dueFrame(x, f, -1, -1, 0, 0, 0);
    }

    static void dueTold(DrumMachine x, int... due) {
        for (int what = 0; what < due.length; what++) {
            due("clock " + x.clock() + ": told(" + what + ")", x.told(what), due[what]);
        }
    }

    static void dueSector(DrumMachine x, int d, int due) {
        due("clock " + x.clock() + ": sector(" + d + ")", x.sector(d), due);
    }
}
