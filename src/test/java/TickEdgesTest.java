/** The boundary cases of the term A TICK, a method for each sentence. */
final class TickEdgesTest {
    private static final long STAY = Check.order(29, 0);

    public static void main(String[] args) {
        aReadOfABlockThatWasNoVictim();
        aReadOfABlockThatWasVictim();
        aReadBeginsToCountAnew();
        noVictimWhileAFrameIsFree();
        oneWriteAtATime();
        tooLongUnusedIsMoreThanOneAboveT();
        theFirstOfThoseTooLongUnused();
        readsGoFromTheirSector();
        writesGoToTheNextSector();
        writesPassSectorsThatAreNotFree();
        thereAre64Sectors();
        theFirstIsInHandAtTheBeginning();
        roundTheJobs();
        aNewBlockWithoutAFreeFrame();
        aFirstInstructionWithoutAFreeFrame();
        aBlockOnTheDrumWithoutAFreeFrame();
        aNewBlockInTheLowestFreeFrame();
        aRoundBehindEvery16th();
        aRoundOfAllFrames();
        aRoundOfAllJobsTogether();
        whatAWaitingJobHasIsNotUsed();
        anAddressWithoutAWordUsesNothing();
        aBlockUsedInEachRoundKeepsT();
        Check.finish();
    }

    /** (a): "T as many ROUNDS as there were since .. (0 for a program's BLOCK that was none yet)". */
    private static void aReadOfABlockThatWasNoVictim() {
        DrumMachine x = new DrumMachine();
        long[] program = new long[17];
        program[0] = Check.order(1, 1, 0, 50);
        program[1] = Check.order(10, 1, 0, 1);
        program[2] = Check.order(16, 16);
        program[3] = Check.order(29, 3);
        Check.take(x, 999, program);
        x.run(120);
        Check.due("READS", x.told(0), 2);
        Check.due("ROUNDS > 2", x.told(4) > 2 ? 1 : 0, 1);
        Check.dueFrame(x, 1, 0, 1, 0, 0, 0);
    }

    /** (a): the ROUNDS since it was chosen, where a ROUND is just before or just behind that. */
    private static void aReadOfABlockThatWasVictim() {
        for (int k = 1; k <= 40; k++) {
            DrumMachine x = new DrumMachine();
            x.frames(3);
            Check.take(x, 9999, Check.order(1, 1, 0, k), Check.order(10, 1, 0, 1), Check.order(20, 16), Check.order(20, 32),
                    Check.order(1, 1, 0, 60), Check.order(10, 1, 0, 5), Check.order(16, 16), Check.order(29, 7));
            // k + 3 INSTRUCTIONS are done when block 1 is chosen, k + 64 when it is missed.
            x.run(250);
            Check.due("READS", x.told(0), 2);
            Check.due("done(0) > k + 64", x.done(0) > k + 64 ? 1 : 0, 1);
            int since = (k + 64) / 16 - (k + 3) / 16;
            int frame = x.frame(1, 1) == 1 ? 1 : 2;
            Check.due("T of a BLOCK that was away, k = " + k, x.frame(frame, 4), since);
        }
    }

    /** (a): "t is 0", though it was not when the BLOCK was chosen. */
    private static void aReadBeginsToCountAnew() {
        DrumMachine x = new DrumMachine();
        x.frames(3);
        Check.take(x, 999, Check.order(20, 16), Check.order(1, 1, 0, 40), Check.order(10, 1, 0, 2), Check.order(20, 32),
                Check.order(16, 16), Check.order(29, 5));
        // Block 1 is VICTIM at 77, goes to SECTOR 7 at 78, and comes from it at 112.
        x.run(77);
        Check.dueFrame(x, 1, 0, 1, 0, 1, 0);
        x.run(35);
        Check.dueFrame(x, 1, 0, 1, 1, 0, 0);
        x.run(1);
        Check.dueFrame(x, 1, 0, 1, 0, 0, 0);
        Check.due("done(0)", x.done(0), 44);
    }

    private static void dueLocked(DrumMachine x, int clock, int... due) {
        x.run(clock - x.clock());
        for (int f = 0; f < due.length; f++) {
            Check.due("clock " + clock + ": LOCKED frame " + f, x.frame(f, 2), due[f]);
        }
    }

    /** (b): "If no FRAME is free". */
    private static void noVictimWhileAFrameIsFree() {
        DrumMachine x = new DrumMachine();
        x.frames(4);
        Check.take(x, 999, Check.order(20, 16), Check.order(20, 32), Check.order(1, 1, 0, 9), Check.order(10, 1, 0, 3),
                Check.order(20, 48), Check.order(29, 5));
        // The third new BLOCK comes at 46.
        dueLocked(x, 46, 0, 0, 0, 0);
        Check.dueFree(x, 3);
        dueLocked(x, 47, 0, 0, 0, 0);
        Check.dueFrame(x, 3, 0, 3, 0, 0, 0);
        dueLocked(x, 48, 0, 1, 0, 0);
    }

    /** (b): "and no WRITE is asked for or under way". */
    private static void oneWriteAtATime() {
        DrumMachine x = new DrumMachine();
        x.frames(5);
        Check.take(x, 999, Check.order(20, 16), Check.order(20, 32), Check.order(20, 48), Check.order(20, 64), Check.order(16, 32),
                Check.order(16, 32), Check.order(16, 16), Check.order(29, 7));
        dueLocked(x, 38, 0, 0, 0, 0, 0);
        dueLocked(x, 39, 0, 1, 0, 0, 0);
        dueLocked(x, 40, 0, 1, 0, 0, 0);
        // At 40 the WRITE has ended, and block 1 is wanted again; its READ is under way till 72, and a WRITE waits for that.
        for (int clock = 41; clock < 73; clock++) {
            dueLocked(x, clock, 0, 1, clock > 41 ? 1 : 0, 0, 0);
        }
        Check.due("WRITES", x.told(1), 1);
        dueLocked(x, 73, 0, 0, 1, 0, 0);
        Check.due("WRITES", x.told(1), 2);
        dueLocked(x, 74, 0, 0, 1, 0, 0);
        dueLocked(x, 75, 0, 0, 0, 0, 0);
        Check.dueFree(x, 2);
    }

    /** (b): "The first FRAME with t > T + 1": t = T + 1 is not enough. */
    private static void tooLongUnusedIsMoreThanOneAboveT() {
        for (int more = 0; more <= 1; more++) {
            DrumMachine x = new DrumMachine();
            x.frames(4);
            // Block 2 is USED by INSTRUCTION 2, block 1 by 1 and by 21: behind two ROUNDS t is 1 and 0, behind three 2 and 1.
            Check.take(x, 999, Check.order(20, 16), Check.order(20, 32), Check.order(1, 1, 0, 17), Check.order(10, 1, 0, 3),
                    Check.order(20, 16), Check.order(1, 1, 0, 12 + 16 * more), Check.order(10, 1, 0, 6), Check.order(20, 48),
                    Check.order(29, 8));
            x.run(34 + 35 + 16 * more);
            Check.due("t of frame 1", x.frame(1, 3), more);
            Check.due("t of frame 2", x.frame(2, 3), 1 + more);
            dueLocked(x, 35 + 35 + 16 * more, 0, 0, 1, 0);
        }
        DrumMachine x = new DrumMachine();
        x.frames(4);
        // Both are unused for one ROUND, where T + 1 = 1: the one with the greatest T - t, the lowest of alike ones.
        Check.take(x, 999, Check.order(20, 16), Check.order(20, 32), Check.order(1, 1, 0, 30), Check.order(10, 1, 0, 3),
                Check.order(20, 48), Check.order(29, 5));
        x.run(34 + 34);
        Check.dueFrame(x, 1, 0, 1, 0, 1, 0);
        Check.dueFrame(x, 2, 0, 2, 0, 1, 0);
        dueLocked(x, 35 + 34, 0, 1, 0, 0);
    }

    /** (b): "The first FRAME with t > T + 1", whatever T - t is. */
    private static void theFirstOfThoseTooLongUnused() {
        DrumMachine x = new DrumMachine();
        x.frames(4);
        Check.take(x, 999, Check.order(20, 16), Check.order(20, 32), Check.order(1, 1, 0, 17), Check.order(10, 1, 0, 3),
                Check.order(20, 32), Check.order(1, 1, 0, 44), Check.order(10, 1, 0, 6), Check.order(20, 48), Check.order(29, 8));
        x.run(34 + 67);
        Check.dueFrame(x, 1, 0, 1, 0, 3, 0);
        Check.dueFrame(x, 2, 0, 2, 0, 2, 0);
        dueLocked(x, 35 + 67, 0, 1, 0, 0);
    }

    /** (c): "A READ goes from the least such s >= c of its SECTOR .. it ends at s + 2." */
    private static void readsGoFromTheirSector() {
        for (int d : new int[] {1, 2, 14, 15, 16, 17, 31, 32, 47, 48, 62}) {
            for (int k = 1; k <= 33; k++) {
                DrumMachine x = new DrumMachine();
                long[] program = new long[1000];
                program[0] = Check.order(1, 1, 0, k);
                program[1] = Check.order(10, 1, 0, 1);
                program[2] = Check.order(16, 16 * d);
                program[3] = Check.order(29, 3);
                Check.take(x, 999, program);
                int c = 36 + k;
                int s = c;
                while (s % 32 != 2 * (d % 16)) {
                    s++;
                }
                x.run(c);
                Check.dueSector(x, d, d);
                x.run(1);
                Check.dueSector(x, d, -1);
                x.run(s + 2 - x.clock());
                Check.due("from SECTOR " + d + " at " + c + ": done before", x.done(0), k + 1);
                Check.dueFrame(x, 1, 0, d, 1, 0, 0);
                x.run(1);
                Check.due("from SECTOR " + d + " at " + c + ": done behind", x.done(0), k + 2);
                Check.dueFrame(x, 1, 0, d, 0);
            }
        }
    }

    /** (c): "a WRITE to the free SECTOR of which that s is least, alike the lowest SECTOR". */
    private static void writesGoToTheNextSector() {
        for (int k = 1; k <= 40; k++) {
            DrumMachine x = new DrumMachine();
            x.frames(3);
            Check.take(x, 999, Check.order(1, 1, 0, k), Check.order(10, 1, 0, 1), Check.order(20, 16), Check.order(20, 32),
                    Check.order(29, 4));
            int c = 37 + k;
            int s = c % 2 == 0 ? c : c + 1;
            int d = s / 2 % 16;
            x.run(c);
            Check.due("at " + c + ": LOCKED before", x.frame(1, 2), 0);
            Check.dueSector(x, d, -1);
            x.run(1);
            Check.due("at " + c + ": LOCKED", x.frame(1, 2), 1);
            Check.dueSector(x, d, 1);
            x.run(s + 2 - x.clock());
            Check.due("at " + c + ": LOCKED before the end", x.frame(1, 2), 1);
            x.run(1);
            Check.dueFree(x, 1);
            Check.dueSector(x, d, 1);
        }
    }

    /** (c): where nearly all SECTORS are full, the WRITE goes round to one of the few that are free. */
    private static void writesPassSectorsThatAreNotFree() {
        DrumMachine x = new DrumMachine();
        x.frames(3);
        long[] program = new long[1000];
        program[0] = Check.order(20, 1008);
        program[1] = Check.order(16, 16);
        program[2] = Check.order(29, 2);
        Check.take(x, 999, program);
        // At 68 the SECTORS 0, 1 and 63 are free, which pass at 96, 98 and 94.
        x.run(68);
        Check.due("WRITES", x.told(1), 0);
        x.run(1);
        Check.due("WRITES", x.told(1), 1);
        Check.dueSector(x, 0, -1);
        Check.dueSector(x, 1, -1);
        Check.dueSector(x, 63, 63);
        x.run(27);
        Check.due("LOCKED at 95", x.frame(1, 2), 1);
        x.run(1);
        Check.dueFree(x, 1);
    }

    /** (c): where all SECTORS of one place are full, the next place that has a free one is taken. */
    private static void thereAre64Sectors() {
        DrumMachine x = new DrumMachine();
        x.frames(3);
        long[] program = new long[992];
        program[0] = Check.order(20, 992);
        program[1] = Check.order(16, 240);
        program[2] = Check.order(29, 2);
        Check.take(x, 999, program);
        x.run(34);
        Check.take(x, 999, STAY);
        Check.dueSector(x, 0, 1000);
        // At 64 the READ from SECTOR 15 has ended; 0, 16, 32 and 48 are full, 15, 62 and 63 pass at 94, 92 and 94.
        x.run(31);
        Check.due("BLOCKS", x.told(5), 64);
        Check.due("WRITES", x.told(1), 1);
        Check.dueSector(x, 15, -1);
        Check.dueSector(x, 62, 62);
        Check.dueSector(x, 63, -1);
        x.run(29);
        Check.due("LOCKED at 93", x.frame(1, 2), 1);
        x.run(1);
        Check.dueFree(x, 1);
    }

    /** (d): "(the first one at the beginning)". */
    private static void theFirstIsInHandAtTheBeginning() {
        DrumMachine x = new DrumMachine();
        Check.take(x, 99, STAY);
        Check.take(x, 99, STAY);
        x.run(1);
        Check.due("in hand at 0", x.told(7), 0);
        x.run(1);
        Check.due("in hand at 1: the first one waits", x.told(7), 1);
        x.run(1);
        Check.due("in hand at 2: IDLE", x.told(7), 1);
        Check.due("IDLE", x.told(3), 1);
    }

    /** (d): "else the next one behind it in order, round the jobs". */
    private static void roundTheJobs() {
        DrumMachine x = new DrumMachine();
        long[] reader = new long[17];
        reader[0] = Check.order(16, 16);
        reader[1] = STAY;
        for (int j = 0; j < 3; j++) {
            Check.take(x, 99, reader);
        }
        // The programs' first BLOCKS come at 34, 38 and 42, from the SECTORS 0, 2 and 4, and each waits again then.
        int[][] due = {{0, 0}, {1, 1}, {2, 2}, {33, 2}, {34, 0}, {37, 0}, {38, 1}, {41, 1}, {42, 2}, {67, 2}};
        for (int[] one : due) {
            x.run(one[0] + 1 - x.clock());
            Check.due("in hand at " + one[0], x.told(7), one[1]);
        }
        // The second BLOCKS come from the SECTORS 1, 3 and 5 at 68, 72 and 76: from the last job it goes to the first.
        x.run(1);
        Check.due("in hand at 68", x.told(7), 0);
        Check.due("done(0)", x.done(0), 1);
        x.run(10);
        Check.due("in hand at 78", x.told(7), 0);
        Check.due("done(0)", x.done(0), 11);
        Check.due("done(1)", x.done(1), 0);
    }

    /** (d): "else if no FRAME is free, the job waits for one", for a BLOCK that does not exist; it does not exist till then. */
    private static void aNewBlockWithoutAFreeFrame() {
        DrumMachine x = new DrumMachine();
        x.frames(3);
        Check.take(x, 99, Check.order(20, 16), Check.order(20, 32), Check.order(20, 48), Check.order(29, 3));
        x.run(37);
        Check.dueTold(x, 1, 1, 2, 33, 0, 3, 1, 0);
        x.run(1);
        Check.dueTold(x, 1, 1, 2, 34, 0, 3, 1, 0);
        x.run(1);
        Check.dueTold(x, 1, 1, 2, 34, 0, 4, 1, 0);
        Check.dueFrame(x, 1, 0, 3, 0, 0, 0);
        Check.due("done(0)", x.done(0), 3);
        // Again no FRAME is free, but it waits for none now.
        x.run(10);
        Check.due("done(0)", x.done(0), 13);
        Check.due("IDLE", x.told(3), 34);
    }

    /** (d): the same for the first INSTRUCTION of a job. */
    private static void aFirstInstructionWithoutAFreeFrame() {
        DrumMachine x = new DrumMachine();
        x.frames(5);
        Check.take(x, 99, Check.order(20, 16), Check.order(20, 32), Check.order(20, 48), Check.order(20, 64), Check.order(20, 80),
                Check.order(29, 5));
        x.run(38);
        Check.take(x, 99, STAY);
        // Block 1 is VICTIM at 38 and gone at 40; the first job finds no free FRAME at 38, the other one at 39.
        x.run(1);
        Check.dueTold(x, 1, 1, 2, 33, 0, 6, 2, 0);
        x.run(1);
        Check.dueTold(x, 1, 1, 3, 33, 0, 6, 2, 1);
        x.run(1);
        Check.dueTold(x, 1, 1, 4, 33, 0, 6, 2, 1);
        Check.dueFrame(x, 1, 1, 0, 1, 0, 0);
    }

    /** (d): the same for a BLOCK on a SECTOR: a MISS without a READ, and then one with it. */
    private static void aBlockOnTheDrumWithoutAFreeFrame() {
        DrumMachine x = new DrumMachine();
        x.frames(3);
        long[] program = new long[17];
        program[0] = Check.order(20, 32);
        program[1] = Check.order(20, 48);
        program[2] = Check.order(16, 16);
        program[3] = Check.order(29, 3);
        Check.take(x, 99, program);
        x.run(37);
        Check.dueTold(x, 1, 1, 2, 33, 0, 4, 1, 0);
        Check.dueSector(x, 1, 1);
        x.run(1);
        Check.dueTold(x, 1, 1, 2, 34, 0, 4, 1, 0);
        x.run(1);
        Check.dueTold(x, 1, 1, 3, 34, 0, 4, 1, 0);
        Check.dueFrame(x, 1, 0, 1, 1, 0, 0);
        x.run(1);
        Check.dueTold(x, 2, 1, 3, 35, 0, 4, 1, 0);
    }

    /** (d): "the lowest free one has it at once (all 0, t = T = 0, no TRANSFER)". */
    private static void aNewBlockInTheLowestFreeFrame() {
        DrumMachine x = new DrumMachine();
        Check.take(x, 99, Check.order(34, 0));
        Check.take(x, 99, Check.order(20, 16), Check.order(16, 32), Check.order(29, 2));
        // The first job is gone since 34: its FRAME 0 is the lowest free one.
        x.run(37);
        Check.dueFrame(x, 0, 1, 1, 0, 0, 0);
        Check.dueFrame(x, 1, 1, 0, 0, 0, 0);
        Check.dueFree(x, 2);
        x.run(1);
        Check.dueFrame(x, 2, 1, 2, 0, 0, 0);
        Check.due("the ACCUMULATOR", x.register(1, -1), 0);
        Check.due("READS", x.told(0), 2);
        Check.due("MISSES", x.told(2), 2);
    }

    /** (e): "behind every 16th one .. there is a ROUND". */
    private static void aRoundBehindEvery16th() {
        DrumMachine x = new DrumMachine();
        Check.take(x, 999, Check.order(20, 16), Check.order(29, 1));
        x.run(34);
        for (int n = 1; n <= 100; n++) {
            x.run(1);
            Check.due("ROUNDS behind " + n, x.told(4), n / 16);
            Check.due("t behind " + n, x.frame(1, 3), Math.max(n / 16 - 1, 0));
        }
    }

    /** (e): "for each BLOCK in a FRAME": from the first to the last. */
    private static void aRoundOfAllFrames() {
        DrumMachine x = new DrumMachine();
        x.frames(4);
        long[] program = new long[20];
        program[0] = Check.order(29, 16);
        program[16] = Check.order(20, 32);
        program[17] = Check.order(20, 48);
        program[18] = Check.order(29, 18);
        Check.take(x, 999, program);
        // The INSTRUCTIONS 2, 3 .. are done from 68 on; block 0, of INSTRUCTION 1, is VICTIM at 70 and written till 72.
        x.run(70);
        Check.dueFrame(x, 0, 0, 0, 0, 0, 0);
        Check.dueFrame(x, 3, 0, 3, 0, 0, 0);
        x.run(29);
        Check.dueFree(x, 0);
        Check.dueFrame(x, 1, 0, 1, 0, 0, 0);
        Check.dueFrame(x, 2, 0, 2, 0, 1, 0);
        Check.dueFrame(x, 3, 0, 3, 0, 1, 0);
        x = new DrumMachine();
        program[16] = Check.order(29, 16);
        Check.take(x, 999, program);
        x.run(99);
        Check.dueFrame(x, 0, 0, 0, 0, 1, 0);
        Check.dueFrame(x, 1, 0, 1, 0, 0, 0);
    }

    /** (e): "(of all jobs together)". */
    private static void aRoundOfAllJobsTogether() {
        DrumMachine x = new DrumMachine();
        Check.take(x, 10, STAY);
        Check.take(x, 10, STAY);
        x.run(45);
        Check.due("ended(0)", x.ended(0), 2);
        x.run(5);
        Check.due("done(1)", x.done(1), 5);
        Check.due("ROUNDS behind 10 and 5", x.told(4), 0);
        x.run(1);
        Check.due("ROUNDS behind 10 and 6", x.told(4), 1);
    }

    /** (e): "Behind an INSTRUCTION that was done": a BLOCK that came and was not yet used is not USED. */
    private static void whatAWaitingJobHasIsNotUsed() {
        DrumMachine x = new DrumMachine();
        Check.take(x, 999, STAY);
        Check.take(x, 999, STAY);
        x.run(50);
        Check.dueFrame(x, 0, 0, 0, 0, 0, 0);
        Check.dueFrame(x, 1, 1, 0, 0, 1, 0);
        x.run(16);
        Check.dueFrame(x, 1, 1, 0, 0, 2, 0);
    }

    /** (e): the BLOCK of an S at which no word is told is not USED. */
    private static void anAddressWithoutAWordUsesNothing() {
        for (int f : new int[] {1, 7, 23, 24, 28}) {
            DrumMachine x = new DrumMachine();
            Check.take(x, 999, Check.order(20, 16), Check.order(23, 1), Check.order(f, 16), Check.order(29, 1));
            x.run(34 + 32);
            Check.dueFrame(x, 1, 0, 1, 0, 1, 0);
        }
        for (int f : new int[] {4, 5, 16, 17, 18, 19, 20, 21, 22}) {
            DrumMachine x = new DrumMachine();
            Check.take(x, 999, Check.order(20, 16), Check.order(23, 1), Check.order(f, 31), Check.order(29, 1));
            x.run(34 + 32);
            Check.dueFrame(x, 1, 0, 1, 0, 0, 0);
        }
    }

    /** (e): "T becomes t, if t > 0; t becomes 0". */
    private static void aBlockUsedInEachRoundKeepsT() {
        DrumMachine x = new DrumMachine();
        Check.take(x, 999, Check.order(20, 16), Check.order(1, 1, 0, 31), Check.order(10, 1, 0, 2), Check.order(20, 16),
                Check.order(1, 1, 0, 15), Check.order(10, 1, 0, 5), Check.order(20, 16), Check.order(29, 7));
        // Block 1 is USED by the INSTRUCTIONS 1, 34 and 51.
        int[][] due = {{0, 0}, {1, 0}, {0, 1}, {0, 1}, {1, 1}, {2, 1}};
        for (int r = 1; r <= due.length; r++) {
            x.run(34 + 16 * r - x.clock());
            Check.dueFrame(x, 1, 0, 1, 0, due[r - 1][0], due[r - 1][1]);
        }
    }
}
