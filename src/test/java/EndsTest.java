/** How jobs end, and which end comes first: promises 6 to 9 and the term ORDERS. */
final class EndsTest {
    public static void main(String[] args) {
        byOrder();
        byLimit();
        byUnknownFunction();
        byAddress();
        byStore();
        byPrint();
        printsPartOfANumber();
        runHasBounds();
        runStopsWithTheLastEnd();
        nobodysAnswers();
        Check.finish();
    }

    private static void due(String what, DrumMachine x, int ended, int done, int control) {
        Check.due(what + ": ended", x.ended(0), ended);
        Check.due(what + ": done", x.done(0), done);
        Check.due(what + ": CONTROL", x.register(0, 128), control);
    }

    private static DrumMachine limited(int limit, long... program) {
        DrumMachine x = new DrumMachine();
        Check.take(x, limit, program);
        x.run(20000);
        return x;
    }

    private static void byOrder() {
        due("34", Check.ran("", Check.order(34, 0)), 1, 1, 1);
        due("34 is the last of the LIMIT", limited(1, Check.order(34, 0)), 1, 1, 1);
    }

    private static void byLimit() {
        DrumMachine x = limited(1, Check.order(29, 0));
        due("LIMIT of 1", x, 2, 1, 0);
        Check.due("it ends in a tick of its own", x.clock(), 36);
        x = limited(10000, Check.order(29, 0));
        due("LIMIT of 10000", x, 2, 10000, 0);
        Check.due("rounds", x.told(4), 625);
        due("LIMIT before CONTROL is looked at", limited(1, Check.order(29, 5000)), 2, 1, 5000);
        due("LIMIT before f is looked at", limited(1, Check.order(23, 1), Check.order(0, 0)), 2, 1, 1);
        x = limited(1, Check.order(29, 100));
        due("LIMIT before a block of CONTROL is made", x, 2, 1, 100);
        Check.due("its misses", x.told(2), 1);
    }

    private static void byUnknownFunction() {
        String known = " 1 2 3 4 5 6 7 8 9 10 11 12 16 17 18 19 20 21 22 23 24 25 26 27 28 29 32 33 34 64 65 66 67 68 ";
        for (int f = 0; f < 1024; f++) {
            DrumMachine x = new DrumMachine();
            Check.take(x, 1, Check.order(f, 1, 0, 9));
            x.run(35);
            boolean told = known.contains(" " + f + " ");
            if (!told) {
                due("f = " + f, x, 3, 0, 0);
            } else if (f != 64 && f != 65) {
                Check.due("f = " + f + ": ended", x.ended(0), f == 34 ? 1 : 0);
                Check.due("f = " + f + ": done", x.done(0), 1);
            }
        }
        due("3 before 4 for S", Check.ran("", Check.order(13, 5000)), 3, 0, 0);
        due("a word of a new block is no order", Check.ran("", Check.order(29, 500)), 3, 1, 500);
    }

    private static void byAddress() {
        int[] words = {4, 5, 16, 17, 18, 19, 20, 21, 22, 64, 65};
        for (int f : words) {
            due(f + " at 1024", Check.ran("", Check.order(f, 1024)), 4, 0, 0);
            due(f + " at -1", Check.ran("", Check.order(f, -1)), 4, 0, 0);
        }
        int[] others = {1, 2, 3, 11, 12, 23, 28, 32, 33, 66, 67, 68};
        for (int f : others) {
            due(f + " at 1024", Check.ran("", Check.order(f, 1024), Check.order(34, 0)), 1, 2, 2);
        }
        due("CONTROL goes to 1024", Check.ran("", Check.order(29, 1024)), 4, 1, 1024);
        due("CONTROL goes to -1", Check.ran("", Check.order(29, -1)), 4, 1, -1);
        due("CONTROL goes to the least", Check.ran("", Check.order(29, 8388608)), 4, 1, -8388608);
        long[] toTheEnd = new long[1000];
        toTheEnd[0] = Check.order(16, 3);
        toTheEnd[1] = Check.order(20, 1023);
        toTheEnd[2] = Check.order(29, 1023);
        toTheEnd[3] = Check.order(23, 7);
        due("CONTROL runs over the end", Check.ran("", toTheEnd), 4, 4, 1024);
        due("4 before 6", Check.ran("", Check.order(64, 1024)), 4, 0, 0);
    }

    private static void byStore() {
        DrumMachine x = new DrumMachine();
        long[] filler = new long[1000];
        filler[0] = Check.order(29, 0);
        Check.take(x, 10000, filler);
        Check.take(x, 99, Check.order(23, 5), Check.order(20, 16));
        Check.due("blocks", x.told(5), 64);
        x.run(10100);
        Check.due("the filler ends by its LIMIT", x.ended(0), 2);
        Check.due("the other finds room then", x.ended(1), 3);

        x = new DrumMachine();
        Check.take(x, 99, Check.order(23, 5), Check.order(20, 16));
        Check.take(x, 10000, filler);
        x.run(100);
        due("a word's block too many", x, 5, 1, 1);
        Check.due("blocks behind it", x.told(5), 63);
        Check.due("misses: the two programs' first blocks", x.told(2), 2);

        x = new DrumMachine();
        Check.take(x, 99, Check.order(29, 16));
        Check.take(x, 10000, filler);
        x.run(100);
        due("a block of CONTROL too many", x, 5, 1, 16);
    }

    private static void byPrint() {
        DrumMachine x = Check.ran("", Check.order(32, 0), Check.order(29, 0));
        due("401 bytes", x, 7, 800, 0);
        Check.due("printed", x.printed(0), 400);
        Check.due("out(0, 399)", x.out(0, 399), 0);
        Check.due("out(0, 400)", x.out(0, 400), -1);
        x = Check.ran("", Check.order(1, 1, 0, 400), Check.order(32, 0), Check.order(10, 1, 0, 1), Check.order(34, 0));
        due("400 bytes", x, 1, 802, 4);
        Check.due("printed", x.printed(0), 400);
    }

    private static void printsPartOfANumber() {
        DrumMachine x = Check.ran("", Check.order(23, -123456), Check.order(66, 0), Check.order(29, 1));
        due("66 over the end", x, 7, 101, 1);
        Check.due("printed", x.printed(0), 400);
        StringBuilder text = new StringBuilder();
        for (int i = 0; i < 50; i++) {
            text.append("-123456\n");
        }
        Check.dueText("its output", Check.output(x, 0), text.toString());
        x = Check.ran("", Check.order(32, 0), Check.order(23, -1234567), Check.order(66, 0), Check.order(29, 1));
        due("66 within a number", x, 7, 134, 2);
        text.setLength(0);
        text.append((char) 0);
        for (int i = 0; i < 44; i++) {
            text.append("-1234567\n");
        }
        Check.dueText("what it printed up to there stays", Check.output(x, 0), text + "-12");
        Check.due("the ACCUMULATOR", x.register(0, -1), -1234567);
    }

    private static void runHasBounds() {
        DrumMachine x = new DrumMachine();
        Check.take(x, 10, Check.order(34, 0));
        int[] refused = {-1, 20001, Integer.MIN_VALUE, Integer.MAX_VALUE};
        for (int ticks : refused) {
            Check.due("run(" + ticks + ")", x.run(ticks), -1);
            Check.due("clock behind it", x.clock(), 0);
        }
        Check.due("run(0)", x.run(0), 1);
        Check.due("clock behind run(0)", x.clock(), 0);
        Check.due("run(34)", x.run(34), 1);
        Check.due("clock behind run(34)", x.clock(), 34);
        Check.due("run(20000)", x.run(20000), 0);
        Check.due("clock behind the end", x.clock(), 35);
    }

    private static void runStopsWithTheLastEnd() {
        DrumMachine x = new DrumMachine();
        Check.take(x, 10000, Check.order(29, 0));
        Check.take(x, 1, Check.order(29, 0));
        Check.take(x, 1, Check.order(34, 0));
        // The first job's block passes at 32, the second's at 34 and the third's at 36; the first runs on till it ends.
        Check.due("run(10034)", x.run(10034), 3);
        Check.due("done(0)", x.done(0), 10000);
        Check.due("run(1)", x.run(1), 2);
        Check.due("run(2)", x.run(2), 1);
        Check.due("ended(1)", x.ended(1), 2);
        Check.due("run(20000)", x.run(20000), 0);
        Check.due("clock", x.clock(), 10038);
        Check.due("run(20000) again", x.run(20000), 0);
        Check.due("clock stays", x.clock(), 10038);
        Check.due("told(6)", x.told(6), 0);
        Check.due("told(7)", x.told(7), 2);
        Check.take(x, 1, Check.order(34, 0));
        Check.due("one job more", x.run(1), 1);
        Check.due("clock goes on", x.clock(), 10039);
        Check.due("told(6)", x.told(6), 1);
        Check.due("told(7)", x.told(7), 3);
    }

    private static void nobodysAnswers() {
        DrumMachine x = Check.ran("", Check.order(34, 0));
        int[] none = {-1, 1, 12, Integer.MIN_VALUE, Integer.MAX_VALUE};
        for (int j : none) {
            Check.due("ended(" + j + ")", x.ended(j), -1);
            Check.due("done(" + j + ")", x.done(j), -1);
            Check.due("printed(" + j + ")", x.printed(j), -1);
        }
        Check.due("told(-1)", x.told(-1), 0);
        Check.due("told(8)", x.told(8), 0);
    }
}
