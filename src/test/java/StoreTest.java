/** BLOCKS, FRAMES, SECTORS and TRANSFERS, tick by tick: promises 13 to 16 and the terms BLOCKS and A TICK. */
final class StoreTest {
    public static void main(String[] args) {
        aRead();
        aWrite();
        aWriteGoesToTheLowestOfAlikeSectors();
        aWriteUnderWayOutlivesItsJob();
        aWriteNotBegunIsDropped();
        aBlockThatIsBeingWrittenIsWaitedFor();
        jobsTakeTurns();
        someJobsAreActive();
        readsInTheOrderOfAsking();
        wrongArguments();
        Check.finish();
    }

    private static void aRead() {
        DrumMachine x = new DrumMachine();
        Check.take(x, 9, Check.order(34, 0));
        Check.dueSector(x, 0, 0);
        Check.dueTold(x, 0, 0, 0, 0, 0, 1, 1, -1);
        x.run(1);
        Check.dueTold(x, 0, 0, 1, 0, 0, 1, 1, 0);
        Check.dueFrame(x, 0, 0, 0, 1, 0, 0);
        Check.dueSector(x, 0, 0);
        x.run(1);
        Check.dueTold(x, 1, 0, 1, 1, 0, 1, 1, 0);
        Check.dueFrame(x, 0, 0, 0, 1, 0, 0);
        Check.dueSector(x, 0, -1);
        Check.due("a word under way", x.word(0, 0), Check.order(34, 0));
        x.run(32);
        Check.dueTold(x, 1, 0, 1, 33, 0, 1, 1, 0);
        Check.dueFrame(x, 0, 0, 0, 1, 0, 0);
        x.run(1);
        Check.dueTold(x, 1, 0, 1, 33, 0, 0, 0, 0);
        Check.dueFree(x, 0);
        Check.due("clock()", x.clock(), 35);
    }

    private static void aWrite() {
        DrumMachine x = new DrumMachine();
        x.frames(3);
        Check.take(x, 999, Check.order(20, 16), Check.order(5, 32), Check.order(29, 2));
        x.run(35);
        Check.dueFrame(x, 0, 0, 0, 0, 0, 0);
        Check.dueFrame(x, 1, 0, 1, 0, 0, 0);
        Check.dueFree(x, 2);
        Check.dueTold(x, 1, 0, 1, 33, 0, 2, 1, 0);
        x.run(1);
        Check.dueFrame(x, 2, 0, 2, 0, 0, 0);
        Check.dueTold(x, 1, 0, 1, 33, 0, 3, 1, 0);
        // Frame 0 is WANTED: it has CONTROL. SECTOR 2 passes at 36.
        x.run(1);
        Check.dueFrame(x, 1, 0, 1, 1, 0, 0);
        Check.dueSector(x, 2, 1);
        Check.dueTold(x, 1, 1, 1, 33, 0, 3, 1, 0);
        x.run(1);
        Check.dueFrame(x, 1, 0, 1, 1, 0, 0);
        x.run(1);
        Check.dueFree(x, 1);
        Check.dueSector(x, 2, 1);
        Check.dueTold(x, 1, 1, 1, 33, 0, 3, 1, 0);
        x.run(100);
        Check.dueTold(x, 1, 1, 1, 33, 6, 3, 1, 0);
    }

    private static void aWriteGoesToTheLowestOfAlikeSectors() {
        DrumMachine x = new DrumMachine();
        x.frames(3);
        long[] program = new long[48];
        program[0] = Check.order(20, 48);
        program[1] = Check.order(20, 64);
        program[2] = Check.order(29, 2);
        Check.take(x, 999, program);
        x.run(36);
        Check.dueSector(x, 18, -1);
        x.run(1);
        Check.dueSector(x, 2, 2);
        Check.dueSector(x, 18, 3);
        Check.dueSector(x, 34, -1);
        Check.due("told(1)", x.told(1), 1);
    }

    private static void aWriteUnderWayOutlivesItsJob() {
        DrumMachine x = new DrumMachine();
        x.frames(3);
        Check.take(x, 999, Check.order(20, 16), Check.order(20, 32), Check.order(34, 0));
        Check.due("run(20000)", x.run(20000), 0);
        Check.due("clock()", x.clock(), 37);
        Check.dueFree(x, 0);
        Check.dueFrame(x, 1, 0, 1, 1, 0, 0);
        Check.dueFree(x, 2);
        Check.dueSector(x, 2, 1);
        Check.dueTold(x, 1, 1, 1, 33, 0, 1, 0, 0);
        Check.take(x, 9, Check.order(34, 0));
        Check.dueSector(x, 0, 1000);
        x.run(1);
        Check.dueFrame(x, 0, 1, 0, 1, 0, 0);
        Check.dueFrame(x, 1, 0, 1, 1, 0, 0);
        Check.dueTold(x, 1, 1, 2, 33, 0, 2, 1, 1);
        x.run(1);
        Check.dueFree(x, 1);
        Check.dueSector(x, 2, -1);
        Check.dueTold(x, 2, 1, 2, 34, 0, 1, 1, 1);
        x.run(20000);
        Check.due("clock(): the read goes from 64", x.clock(), 67);
    }

    private static void aWriteNotBegunIsDropped() {
        DrumMachine x = new DrumMachine();
        x.frames(5);
        long[] program = new long[32];
        program[0] = Check.order(20, 32);
        program[1] = Check.order(20, 48);
        program[2] = Check.order(20, 64);
        program[3] = Check.order(34, 0);
        Check.take(x, 999, program);
        Check.take(x, 999, Check.order(34, 0));
        x.run(37);
        Check.dueFrame(x, 0, 0, 0, 0, 0, 0);
        Check.dueFrame(x, 1, 1, 0, 1, 0, 0);
        Check.dueFrame(x, 2, 0, 2, 0, 0, 0);
        Check.dueFrame(x, 3, 0, 3, 0, 0, 0);
        Check.dueFrame(x, 4, 0, 4, 0, 0, 0);
        Check.dueTold(x, 2, 0, 2, 32, 0, 6, 2, 0);
        // At 37 the WRITE of block 2 is asked for, behind the READ from SECTOR 2; then the job ends.
        x.run(1);
        Check.due("ended(0)", x.ended(0), 1);
        Check.dueFree(x, 0);
        Check.dueFrame(x, 1, 1, 0, 1, 0, 0);
        Check.dueFree(x, 2);
        Check.dueFree(x, 3);
        Check.dueFree(x, 4);
        Check.dueTold(x, 2, 0, 2, 32, 0, 1, 1, 0);
        Check.dueSector(x, 1, -1);
        Check.due("run(20000)", x.run(20000), 0);
        Check.dueTold(x, 2, 0, 2, 32, 0, 0, 0, 1);
        Check.due("clock()", x.clock(), 39);
    }

    private static void aBlockThatIsBeingWrittenIsWaitedFor() {
        DrumMachine x = new DrumMachine();
        x.frames(3);
        Check.take(x, 999, Check.order(20, 16), Check.order(20, 32), Check.order(16, 16), Check.order(29, 3));
        // At 36 block 1 is VICTIM and wanted: a MISS. At 38 it is on SECTOR 2: a MISS again, and its READ from 68 on.
        x.run(37);
        Check.dueTold(x, 1, 1, 2, 33, 0, 3, 1, 0);
        x.run(1);
        Check.dueTold(x, 1, 1, 2, 34, 0, 3, 1, 0);
        x.run(1);
        Check.dueTold(x, 1, 1, 3, 34, 0, 3, 1, 0);
        Check.dueFrame(x, 1, 0, 1, 1, 0, 0);
        Check.dueSector(x, 2, 1);
        x.run(1);
        Check.dueTold(x, 2, 1, 3, 35, 0, 3, 1, 0);
        Check.dueSector(x, 2, -1);
        Check.due("done(0)", x.done(0), 2);
        x.run(31);
        // The READ ends at 70; then the WRITE of block 2 begins, which was asked for at 39. SECTOR 3 passes at 70.
        Check.due("done(0)", x.done(0), 3);
        Check.dueFrame(x, 1, 0, 1, 0, 0, 0);
        Check.dueFrame(x, 2, 0, 2, 1, 0, 0);
        Check.dueSector(x, 3, 2);
        Check.dueTold(x, 2, 2, 3, 65, 0, 3, 1, 0);
    }

    private static void jobsTakeTurns() {
        DrumMachine x = new DrumMachine();
        for (int j = 0; j < 3; j++) {
            Check.take(x, 999, Check.order(20, 16), Check.order(29, 0));
        }
        int[] inHand = {0, 1, 2};
        for (int j : inHand) {
            x.run(1);
            Check.due("in hand at " + (x.clock() - 1), x.told(7), j);
            Check.dueFrame(x, j, j, 0, 1, 0, 0);
        }
        x.run(31);
        Check.dueTold(x, 1, 0, 3, 31, 0, 3, 3, 2);
        x.run(1);
        Check.due("in hand at 34", x.told(7), 0);
        x.run(50);
        Check.due("it goes on as long as it is READY", x.told(7), 0);
        Check.due("done(0)", x.done(0), 51);
        Check.due("done(1)", x.done(1), 0);
        Check.due("READS", x.told(0), 3);
    }

    private static void someJobsAreActive() {
        for (int f = 3; f <= 17; f++) {
            DrumMachine x = new DrumMachine();
            x.frames(f);
            for (int j = 0; j < 12; j++) {
                Check.take(x, 1, Check.order(34, 0));
                Check.due("ACTIVE of " + (j + 1) + " with " + f + " frames", x.told(6), Math.min(j + 1, (f - 1) / 2));
            }
            x.run(20000);
            Check.due("ACTIVE behind all ends", x.told(6), 0);
        }
        DrumMachine x = new DrumMachine();
        x.frames(5);
        for (int j = 0; j < 3; j++) {
            Check.take(x, 100, Check.order(29, 0));
        }
        x.run(134);
        Check.dueFree(x, 2);
        Check.due("done(0)", x.done(0), 100);
        x.run(1);
        Check.due("ended(0)", x.ended(0), 2);
        Check.due("ACTIVE", x.told(6), 2);
        x.run(1);
        Check.due("in hand is the next one behind it", x.told(7), 1);
        x.run(100);
        Check.due("ended(1)", x.ended(1), 2);
        x.run(1);
        Check.due("in hand", x.told(7), 2);
        Check.dueFrame(x, 0, 2, 0, 1, 0, 0);
    }

    private static void readsInTheOrderOfAsking() {
        DrumMachine x = new DrumMachine();
        Check.take(x, 9, new long[] {Check.order(34, 0), 0, 0, 0, 0, 0, 0, 0, 0, 0, 0, 0, 0, 0, 0, 0, 0});
        Check.take(x, 9, Check.order(29, 0));
        Check.take(x, 9, Check.order(29, 0));
        // SECTORS 0 (job 0), 2 (job 1) and 3 (job 2): READS from 32, then from 36, then from 38.
        x.run(34);
        Check.dueSector(x, 0, -1);
        Check.dueSector(x, 2, 1000);
        Check.due("READS", x.told(0), 1);
        x.run(1);
        Check.due("ended(0)", x.ended(0), 1);
        Check.dueSector(x, 1, -1);
        Check.dueSector(x, 2, -1);
        Check.dueSector(x, 3, 2000);
        x.run(3);
        Check.dueFrame(x, 1, 1, 0, 1, 0, 0);
        x.run(1);
        Check.dueFrame(x, 1, 1, 0, 0, 0, 0);
        Check.dueSector(x, 3, -1);
        Check.due("READS", x.told(0), 3);
        Check.due("done(1)", x.done(1), 1);
    }

    private static void wrongArguments() {
        DrumMachine x = new DrumMachine();
        Check.take(x, 9, Check.order(29, 0));
        x.run(36);
        int[] far = {Integer.MIN_VALUE, -1, 64, 1000, Integer.MAX_VALUE};
        for (int d : far) {
            Check.due("sector(" + d + ")", x.sector(d), -1);
            Check.due("frame(" + d + ", 0)", x.frame(d, 0), -1);
            Check.due("frame(0, " + d + ")", x.frame(0, d), -1);
            Check.due("told(" + d + ")", x.told(d), 0);
        }
        Check.due("frame(7, 2)", x.frame(7, 2), -1);
        Check.due("frame(0, 5)", x.frame(0, 5), -1);
        Check.due("frame(6, 2)", x.frame(6, 2), 0);
        Check.due("told(8)", x.told(8), 0);
    }
}
