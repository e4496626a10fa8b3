/** The boundary cases of the term BLOCKS, a method for each sentence. */
final class BlockEdgesTest {
    private static final long END = Check.order(34, 0);
    private static final long STAY = Check.order(29, 0);

    public static void main(String[] args) {
        aBlockHas16Words();
        aProgramsBlocksExist();
        aBlockExistsOnlyBehindItsInstruction();
        programsGoToTheLowestFreeSectors();
        anEndFreesFramesAndSectors();
        anEndFreesNoSectorOfAnother();
        anEndDropsAWriteThatIsNotBegun();
        aWriteUnderWayIsOneOfThe64();
        someJobsAreActive();
        othersAreNotActive();
        theNextIsActiveWithAnEnd();
        theBlockOfControlIsWanted();
        controlLeavesItsBlock();
        theBlockThatAJobWaitsForIsWanted();
        Check.finish();
    }

    /** "A job's BLOCK k is its words 16 k to 16 k + 15." */
    private static void aBlockHas16Words() {
        DrumMachine x = new DrumMachine();
        x.frames(17);
        int[] addresses = {15, 16, 31, 32, 47, 1007, 992, 1008, 1023};
        int[] blocks = {1, 2, 2, 3, 3, 4, 4, 5, 5};
        long[] program = new long[addresses.length + 1];
        for (int i = 0; i < addresses.length; i++) {
            program[i] = Check.order(20, addresses[i]);
        }
        program[addresses.length] = Check.order(29, addresses.length);
        Check.take(x, 999, program);
        x.run(34);
        for (int i = 0; i < addresses.length; i++) {
            x.run(1);
            Check.due("BLOCKS behind a word at " + addresses[i], x.told(5), blocks[i]);
        }
        int[] numbers = {0, 1, 2, 62, 63, -1};
        for (int f = 0; f < numbers.length; f++) {
            Check.due("the BLOCK in frame " + f, x.frame(f, 1), numbers[f]);
        }
    }

    /** "It EXISTS as soon as the program has a word in it". */
    private static void aProgramsBlocksExist() {
        int[][] cases = {{1, 1}, {15, 1}, {16, 1}, {17, 2}, {32, 2}, {33, 3}, {992, 62}, {993, 63}, {1000, 63}};
        for (int[] one : cases) {
            DrumMachine x = new DrumMachine();
            Check.take(x, 9, new long[one[0]]);
            Check.due("BLOCKS of " + one[0] + " words", x.told(5), one[1]);
            Check.dueSector(x, one[1] - 1, one[1] - 1);
            Check.dueSector(x, one[1], -1);
        }
    }

    /** ".. or an INSTRUCTION (CONTROL, or a word at S) comes to it": not by an S at which no word is told. */
    private static void aBlockExistsOnlyBehindItsInstruction() {
        DrumMachine x = new DrumMachine();
        Check.take(x, 99, Check.order(23, 500), Check.order(24, 500), Check.order(16, 500), Check.order(29, 3));
        x.run(34);
        for (int due : new int[] {1, 1, 2, 2}) {
            x.run(1);
            Check.due("BLOCKS", x.told(5), due);
        }
    }

    /** "A program's BLOCKS are put on the SECTORS that are free, the lowest first". */
    private static void programsGoToTheLowestFreeSectors() {
        DrumMachine x = new DrumMachine();
        x.frames(3);
        long[] two = new long[17];
        two[0] = END;
        Check.take(x, 9, two);
        Check.take(x, 9, END);
        Check.take(x, 9, END);
        Check.due("run(35)", x.run(35), 2);
        Check.take(x, 9, new long[65]);
        int[] due = {3000, 3001, 1000, 2000, 3002, 3003, 3004, -1};
        for (int d = 0; d < due.length; d++) {
            Check.dueSector(x, d, due[d]);
        }
    }

    /** "When a job ends its BLOCKS exist no more: their FRAMES and SECTORS are free". */
    private static void anEndFreesFramesAndSectors() {
        DrumMachine x = new DrumMachine();
        long[] program = new long[48];
        program[0] = Check.order(16, 16);
        program[1] = Check.order(20, 64);
        program[2] = END;
        Check.take(x, 9, program);
        Check.take(x, 9, STAY);
        // The other job, whose READ is at 38, has ended by its LIMIT when block 1 comes from SECTOR 1 at 68.
        x.run(70);
        Check.due("done(0)", x.done(0), 2);
        Check.dueSector(x, 2, 2);
        Check.due("BLOCKS", x.told(5), 4);
        x.run(1);
        Check.due("ended(0)", x.ended(0), 1);
        Check.due("BLOCKS", x.told(5), 0);
        for (int f = 0; f < 7; f++) {
            Check.dueFree(x, f);
        }
        for (int d = 0; d < 64; d++) {
            Check.dueSector(x, d, -1);
        }
    }

    /** The same: the SECTOR from which a BLOCK of it was read, long ago, is another job's by now. */
    private static void anEndFreesNoSectorOfAnother() {
        DrumMachine x = new DrumMachine();
        x.frames(3);
        Check.take(x, 5, STAY);
        x.run(2);
        Check.dueSector(x, 0, -1);
        Check.take(x, 5, STAY);
        Check.dueSector(x, 0, 1000);
        x.run(38);
        Check.due("ended(0)", x.ended(0), 2);
        Check.dueSector(x, 0, 1000);
        Check.due("BLOCKS", x.told(5), 1);
    }

    /** "WRITES of them that were asked for and not begun are dropped": another VICTIM can be chosen then. */
    private static void anEndDropsAWriteThatIsNotBegun() {
        DrumMachine x = new DrumMachine();
        x.frames(5);
        long[] program = new long[17];
        program[0] = Check.order(20, 32);
        program[1] = Check.order(20, 48);
        program[2] = Check.order(20, 64);
        program[3] = END;
        Check.take(x, 99, program);
        Check.take(x, 99, Check.order(20, 16), Check.order(20, 32), Check.order(20, 48), Check.order(20, 64), Check.order(29, 4));
        // At 37 the WRITE of block 2 is asked for, behind the READ of the second job's BLOCK, and the first job ends.
        x.run(38);
        Check.due("ended(0)", x.ended(0), 1);
        Check.due("WRITES", x.told(1), 0);
        x.run(4);
        int[] blocks = {1, 0, 2, 3, 4};
        for (int f = 0; f < 5; f++) {
            Check.dueFrame(x, f, 1, blocks[f], 0, 0, 0);
        }
        Check.due("WRITES", x.told(1), 0);
        x.run(1);
        Check.due("WRITES", x.told(1), 1);
        Check.dueFrame(x, 0, 1, 1, 1, 0, 0);
        Check.dueSector(x, 5, 1001);
    }

    /** "but one whose WRITE is under way exists .. till that ends": it is one of 64 till then. */
    private static void aWriteUnderWayIsOneOfThe64() {
        DrumMachine x = new DrumMachine();
        x.frames(3);
        Check.take(x, 99, Check.order(20, 16), Check.order(20, 32), END);
        Check.due("run(99)", x.run(99), 0);
        Check.due("clock", x.clock(), 37);
        Check.due("BLOCKS", x.told(5), 1);
        Check.dueFrame(x, 1, 0, 1, 1, 0, 0);
        Check.dueSector(x, 2, 1);
        Check.due("a job of 63 BLOCKS", Check.take(x, 9, new long[1000]), 1);
        Check.dueSector(x, 2, 1);
        Check.dueSector(x, 3, 1002);
        Check.dueSector(x, 63, 1062);
        Check.due("a job of one BLOCK more", Check.take(x, 9, END), -1);
        x.run(1);
        Check.due("BLOCKS at 38", x.told(5), 64);
        Check.due("a job of one BLOCK more", x.job(9, 1), -1);
        x.run(1);
        Check.due("BLOCKS at 39", x.told(5), 63);
        Check.dueFree(x, 1);
        Check.dueSector(x, 2, -1);
        Check.due("a job of one BLOCK more", x.job(9, 1), 2);
        // The READ of the second job's first BLOCK has begun: SECTOR 0 is the lowest free one.
        Check.dueSector(x, 0, 2000);
    }

    /** "(F - 1) / 2 jobs are ACTIVE at most". */
    private static void someJobsAreActive() {
        int[][] cases = {{3, 1}, {4, 1}, {5, 2}, {6, 2}, {7, 3}, {8, 3}, {16, 7}, {17, 8}};
        for (int[] one : cases) {
            DrumMachine x = new DrumMachine();
            x.frames(one[0]);
            for (int j = 1; j <= 12; j++) {
                Check.take(x, 9, END);
                Check.due("ACTIVE of " + j + " with " + one[0] + " frames", x.told(6), Math.min(j, one[1]));
            }
        }
    }

    /** "those that were taken first, of those that have not ended": others do nothing, though all ACTIVE ones wait. */
    private static void othersAreNotActive() {
        DrumMachine x = new DrumMachine();
        x.frames(4);
        Check.take(x, 99, STAY);
        Check.take(x, 99, STAY);
        x.run(34);
        Check.due("MISSES", x.told(2), 1);
        Check.due("IDLE", x.told(3), 33);
        Check.dueFree(x, 1);
        Check.dueSector(x, 1, 1000);
        Check.due("in hand", x.told(7), 0);
    }

    /** "with the end of one the next is". */
    private static void theNextIsActiveWithAnEnd() {
        DrumMachine x = new DrumMachine();
        x.frames(3);
        Check.take(x, 99, END);
        Check.take(x, 99, STAY);
        Check.take(x, 99, STAY);
        Check.due("ACTIVE", x.told(6), 1);
        x.run(35);
        Check.due("ended(0)", x.ended(0), 1);
        Check.due("ACTIVE", x.told(6), 1);
        Check.due("in hand", x.told(7), 0);
        x.run(1);
        Check.due("in hand", x.told(7), 1);
        Check.dueFrame(x, 0, 1, 0, 1, 0, 0);
        Check.dueFree(x, 1);
    }

    /** "A BLOCK is WANTED if it is that of CONTROL of an ACTIVE job". */
    private static void theBlockOfControlIsWanted() {
        DrumMachine x = new DrumMachine();
        x.frames(3);
        Check.take(x, 99, Check.order(20, 16), Check.order(20, 32), Check.order(29, 2));
        x.run(37);
        Check.due("LOCKED: the BLOCK of CONTROL", x.frame(0, 2), 0);
        Check.due("LOCKED: the next", x.frame(1, 2), 1);
    }

    /** The BLOCK that CONTROL left is not WANTED, that to which it came is. */
    private static void controlLeavesItsBlock() {
        DrumMachine x = new DrumMachine();
        x.frames(3);
        long[] program = new long[18];
        program[0] = Check.order(29, 15);
        program[15] = Check.order(28, 0);
        program[16] = Check.order(20, 32);
        program[17] = Check.order(29, 17);
        Check.take(x, 99, program);
        // CONTROL is 16 from 36 on: the READ of block 1 goes from SECTOR 1 at 66.
        x.run(69);
        Check.due("done(0)", x.done(0), 3);
        x.run(1);
        Check.due("LOCKED: the BLOCK that CONTROL left", x.frame(0, 2), 1);
        Check.due("LOCKED: the BLOCK of CONTROL", x.frame(1, 2), 0);
    }

    /** "or that of S of an INSTRUCTION for which an ACTIVE job waits", till that is begun anew. */
    private static void theBlockThatAJobWaitsForIsWanted() {
        DrumMachine x = new DrumMachine();
        x.frames(5);
        long[] first = new long[17];
        first[0] = Check.order(16, 16);
        first[1] = Check.order(1, 1, 0, 20);
        first[2] = Check.order(16, 16);
        first[3] = Check.order(10, 1, 0, 2);
        first[4] = Check.order(20, 32);
        first[5] = Check.order(29, 5);
        long[] second = new long[17];
        second[0] = Check.order(16, 16);
        second[1] = Check.order(29, 1);
        Check.take(x, 999, first);
        Check.take(x, 999, second);
        // The second job's block 1 comes at 72, when the first one is in hand and READY; that fills the last FRAME at 110.
        x.run(111);
        Check.dueFrame(x, 2, 0, 1, 0, 0, 0);
        Check.dueFrame(x, 3, 1, 1, 0, 2, 0);
        Check.dueFrame(x, 4, 0, 2, 0, 0, 0);
        x.run(1);
        Check.due("LOCKED: the BLOCK that the second job waits for", x.frame(3, 2), 0);
        Check.due("LOCKED: another, though it was USED", x.frame(2, 2), 1);
    }
}
