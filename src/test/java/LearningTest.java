/** ROUNDS, t and T, and the choice of a VICTIM: promises 14 and 15 and the term A TICK. */
final class LearningTest {
    /** Three words in blocks of their own, one to fill the last frame, and one in the program's own block. */
    private static final String Q = "240 ";
    private static final String P = "272 ";
    private static final String R = "304 ";
    private static final String E = "336 ";
    private static final String OWN = "15 ";
    private static final String PAUSE = OWN + OWN + OWN + OWN;

    public static void main(String[] args) {
        roundsCountWhatIsUnused();
        aReadTellsHowLongABlockWasAway();
        theFirstThatIsUnusedForTooLong();
        theOneThatIsWantedLast();
        theOneWithTheLongestPause();
        theLowestOfAlikeOnes();
        lookingUsesNothing();
        Check.finish();
    }

    private static void dueAges(DrumMachine x, int f, int t, int bigT) {
        Check.due("clock " + x.clock() + ": t of frame " + f, x.frame(f, 3), t);
        Check.due("clock " + x.clock() + ": T of frame " + f, x.frame(f, 4), bigT);
    }

    private static void roundsCountWhatIsUnused() {
        DrumMachine x = new DrumMachine();
        Check.take(x, 999, Check.order(20, 16), Check.order(1, 1, 0, 45), Check.order(10, 1, 0, 2), Check.order(20, 16),
                Check.order(29, 4));
        // INSTRUCTION n is done at tick 33 + n; block 1 is USED by the 1st and the 48th.
        int[][] due = {{49, 0, 0, 0}, {50, 1, 0, 0}, {65, 1, 0, 0}, {66, 2, 1, 0}, {81, 2, 1, 0}, {82, 3, 0, 1},
            {97, 3, 0, 1}, {98, 4, 1, 1}, {114, 5, 2, 1}, {130, 6, 3, 1}};
        for (int[] row : due) {
            x.run(row[0] - x.clock());
            Check.due("ROUNDS at " + row[0], x.told(4), row[1]);
            dueAges(x, 1, row[2], row[3]);
            dueAges(x, 0, 0, 0);
        }
    }

    private static void aReadTellsHowLongABlockWasAway() {
        DrumMachine x = new DrumMachine();
        x.frames(3);
        Check.take(x, 999, Check.order(20, 16), Check.order(20, 32), Check.order(1, 1, 0, 40), Check.order(10, 1, 0, 3),
                Check.order(16, 16), Check.order(29, 5));
        // Block 1 is VICTIM at 36 and asked for again at 77, behind 43 INSTRUCTIONS; SECTOR 2 passes at 100.
        x.run(78);
        Check.due("MISSES", x.told(2), 2);
        Check.due("ROUNDS", x.told(4), 2);
        x.run(24);
        Check.due("LOCKED at 101", x.frame(1, 2), 1);
        dueAges(x, 1, 0, 0);
        x.run(1);
        Check.due("LOCKED at 102", x.frame(1, 2), 0);
        dueAges(x, 1, 0, 2);
        Check.due("IDLE ticks", x.told(3), 57);
        Check.due("WRITES", x.told(1), 2);
        Check.due("sector(3)", x.sector(3), 2);
        Check.due("frame(2, 2)", x.frame(2, 2), 1);
    }

    /**
     * Five frames, and a job that stores to the addresses on its TAPE: by four INSTRUCTIONS each, so
     * that four addresses make a ROUND. The access number i is done at tick 36 + 4 i.
     */
    private static DrumMachine storer(String tape) {
        DrumMachine x = new DrumMachine();
        x.frames(5);
        Check.take(x, 9999, tape + PAUSE + PAUSE, Check.order(67, 0), Check.order(11, 2, 0, 0), Check.order(20, 0, 2, 0),
                Check.order(29, 0));
        return x;
    }

    /** The access number i fills the last frame; at the next tick the frame has to be the VICTIM. */
    private static void dueVictim(DrumMachine x, int i, int frame, int block) {
        x.run(36 + 4 * i + 1 - x.clock());
        Check.due("the last frame's block", x.frame(4, 1), 21);
        for (int f = 0; f < 5; f++) {
            Check.due("LOCKED frame " + f + " before", x.frame(f, 2), 0);
        }
        x.run(1);
        for (int f = 0; f < 5; f++) {
            Check.due("LOCKED frame " + f, x.frame(f, 2), f == frame ? 1 : 0);
        }
        Check.due("the VICTIM", x.frame(frame, 1), block);
        dueAges(x, frame, 0, 0);
    }

    private static void theFirstThatIsUnusedForTooLong() {
        DrumMachine x = storer(Q + P + R + OWN + Q + P + OWN + OWN + Q + OWN + OWN + OWN + PAUSE + E);
        x.run(98);
        dueAges(x, 1, 1, 0);
        dueAges(x, 2, 2, 0);
        dueAges(x, 3, 3, 0);
        dueVictim(x, 16, 2, 17);
    }

    private static void theOneThatIsWantedLast() {
        DrumMachine x = storer(Q + P + R + OWN + Q + R + OWN + OWN + Q + OWN + OWN + OWN + PAUSE + P + Q + R + OWN + PAUSE + E);
        x.run(130);
        dueAges(x, 1, 1, 1);
        dueAges(x, 2, 1, 3);
        dueAges(x, 3, 1, 2);
        dueVictim(x, 24, 2, 17);
    }

    private static void theOneWithTheLongestPause() {
        DrumMachine x = storer(Q + P + R + OWN + Q + P + OWN + OWN + Q + OWN + OWN + OWN + PAUSE + P + Q + R + OWN + P + Q + R
                + OWN + E);
        x.run(130);
        dueAges(x, 1, 0, 1);
        dueAges(x, 2, 0, 2);
        dueAges(x, 3, 0, 3);
        dueVictim(x, 24, 3, 19);
    }

    private static void theLowestOfAlikeOnes() {
        dueVictim(storer(P + Q + R + E), 3, 1, 17);
        // t is 1 and T is 0 for all three.
        dueVictim(storer(R + P + Q + OWN + PAUSE + E), 8, 1, 19);
        // t is 1 and T is 2, 3 and 3.
        dueVictim(storer(Q + P + R + OWN + Q + PAUSE + PAUSE + OWN + OWN + OWN + P + Q + R + OWN + PAUSE + E), 24, 2, 17);
    }

    private static void lookingUsesNothing() {
        DrumMachine x = storer(Q + P + R + OWN + PAUSE + PAUSE);
        DrumMachine y = storer(Q + P + R + OWN + PAUSE + PAUSE);
        for (int i = 0; i < 100; i++) {
            x.run(1);
            y.run(1);
            Check.due("a word", x.word(0, 272), i < 40 ? 0 : 272);
            x.register(0, -1);
            x.frame(2, 3);
            x.sector(17);
        }
        Check.due("digest()", x.digest(), y.digest());
        dueAges(x, 2, 3, 0);
    }
}
