/** The boundary cases of the calls: promises 1 to 17, a method for each sentence that names one. */
final class CallEdgesTest {
    private static final int LEAST_INT = Integer.MIN_VALUE;
    private static final int GREATEST_INT = Integer.MAX_VALUE;
    private static final long LEAST = -(1L << 47);
    private static final long END = Check.order(34, 0);
    private static final long STAY = Check.order(29, 0);

    public static void main(String[] args) {
        aNewObjectHasSevenFrames();
        aNewObjectHasAnEmptyTray();
        framesAre3To17();
        framesAreRefusedBehindAJob();
        wordsAreTheLowest48Bits();
        wordsAreAtMost1000();
        bytesAre0To32();
        bytesAreAtMost2000();
        bytesGoOnInTheNextLong();
        jobLeavesAnEmptyTray();
        jobsAreAtMost12();
        limitIs1To10000();
        wordsOfAJobAre1ToWhatTheTrayHas();
        blocksOfAJobAreNotTooMany();
        runIs0To20000();
        runEndsWithTheLastJob();
        runWithoutJobs();
        endedIsZeroBeforeTheEnd();
        answersWithoutAJob();
        outIsOneOfThePrinted();
        registersAreMinus1To128();
        wordIsAnAddressOfTheStore();
        wordOfABlockThatDoesNotExist();
        wordOfABlockOnItsWay();
        wordOfAJobThatEnded();
        clockStandsStill();
        toldIs0To7();
        toldJobInHandIfNoneEverWas();
        frameIsOneOfF();
        frameThatIsFree();
        frameThatIsLocked();
        sectorIsOneOf64();
        sectorOfATransfer();
        digestOfNoJob();
        digestOfAJobThatEnded();
        Check.finish();
    }

    private static void dueFrames(String what, DrumMachine x, int f) {
        Check.due(what + ": the last frame", x.frame(f - 1, 2), 0);
        Check.due(what + ": a frame too many", x.frame(f, 2), -1);
    }

    /** 1: "Seven frames". */
    private static void aNewObjectHasSevenFrames() {
        DrumMachine x = new DrumMachine();
        dueFrames("a new object", x, 7);
        for (int j = 0; j < 4; j++) {
            Check.take(x, 1, END);
            Check.due("ACTIVE with seven frames", x.told(6), Math.min(j + 1, 3));
        }
    }

    /** 1: "no job, nothing on the tray". */
    private static void aNewObjectHasAnEmptyTray() {
        DrumMachine x = new DrumMachine();
        Check.due("a new object: ended(0)", x.ended(0), -1);
        Check.due("a new object: job(1, 1)", x.job(1, 1), -1);
        Check.due("a new object: the first words", x.words(END, 0, 0, 0, 0), 5);
        Check.due("a new object: the first byte", x.bytes(0, 0, 0, 0, 1), 1);
        Check.due("a new object: the first job", x.job(1, 1), 0);
    }

    /** 2: "-1, and nothing is changed, if it is not 3 to 17". */
    private static void framesAre3To17() {
        DrumMachine x = new DrumMachine();
        Check.due("frames(9)", x.frames(9), 9);
        for (int f : new int[] {2, 18, 1, 0, -1, -3, LEAST_INT, GREATEST_INT}) {
            Check.due("frames(" + f + ")", x.frames(f), -1);
            dueFrames("behind frames(" + f + ")", x, 9);
        }
        Check.due("frames(3)", x.frames(3), 3);
        dueFrames("behind frames(3)", x, 3);
        Check.due("frames(17)", x.frames(17), 17);
        dueFrames("behind frames(17)", x, 17);
    }

    /** 2: "-1, and nothing is changed, if .. a job was taken already". */
    private static void framesAreRefusedBehindAJob() {
        DrumMachine x = new DrumMachine();
        x.frames(5);
        x.words(END, 0, 0, 0, 0);
        Check.due("a job that is not taken", x.job(0, 1), -1);
        Check.due("frames(6) behind it", x.frames(6), 6);
        x.job(1, 1);
        for (int i = 0; i < 2; i++) {
            Check.due("frames(6) behind a job", x.frames(6), -1);
            Check.due("frames(17) behind a job", x.frames(17), -1);
            Check.due("frames(2) behind a job", x.frames(2), -1);
            dueFrames("behind a job", x, 6);
            x.run(20000);
        }
    }

    /** 3: "(the lowest 48 bits of each)". */
    private static void wordsAreTheLowest48Bits() {
        DrumMachine x = new DrumMachine();
        x.words(-1L << 48, (-1L << 48) + 1, 1L << 47, (1L << 47) - 1, Long.MAX_VALUE);
        x.words(Long.MIN_VALUE, (1L << 48) - 1, LEAST - 1, -1, 0);
        x.job(1, 9);
        long[] due = {0, 1, LEAST, -1 - LEAST, -1, 0, -1, -1 - LEAST, -1};
        for (int i = 0; i < due.length; i++) {
            Check.due("48 bits: word(0, " + i + ")", x.word(0, i), due[i]);
        }
    }

    /** 3: "-1, and nothing comes, if these would be more than 1000". */
    private static void wordsAreAtMost1000() {
        DrumMachine x = new DrumMachine();
        for (int i = 1; i <= 199; i++) {
            x.words(i, i, i, i, i);
        }
        Check.due("words 996 to 1000", x.words(11, 12, 13, 14, 15), 1000);
        Check.due("words 1001 to 1005", x.words(21, 22, 23, 24, 25), -1);
        Check.due("a job of 1001 words", x.job(1, 1001), -1);
        Check.due("a job of 1000 words", x.job(1, 1000), 0);
        Check.due("word 994", x.word(0, 994), 199);
        Check.due("word 995", x.word(0, 995), 11);
        Check.due("word 999", x.word(0, 999), 15);
        Check.due("word 1000", x.word(0, 1000), 0);
    }

    /** How many bytes the TAPE of a job has that takes all that the tray has. */
    private static int tapeLength(DrumMachine x) {
        int j = Check.take(x, 10000, Check.order(33, 0), Check.order(27, 4), Check.order(2, 1, 0, 1), STAY, END);
        x.run(20000);
        return (int) x.register(j, 1);
    }

    /** 4: "-1, and nothing comes, if n is not 0 to 32". */
    private static void bytesAre0To32() {
        DrumMachine x = new DrumMachine();
        Check.due("bytes of 5", x.bytes(0, 0, 0, 0, 5), 5);
        for (int n : new int[] {-1, 33, 34, LEAST_INT, GREATEST_INT}) {
            Check.due("bytes of " + n, x.bytes(0, 0, 0, 0, n), -1);
        }
        Check.due("bytes of 0", x.bytes(0, 0, 0, 0, 0), 5);
        Check.due("bytes of 32", x.bytes(0, 0, 0, 0, 32), 37);
        Check.due("the TAPE", tapeLength(x), 37);
    }

    /** 4: "-1, and nothing comes, if .. these would be more than 2000". */
    private static void bytesAreAtMost2000() {
        DrumMachine x = new DrumMachine();
        for (int i = 1; i <= 62; i++) {
            x.bytes(-1, -1, -1, -1, 32);
        }
        Check.due("bytes 1985 to 2001", x.bytes(0, 0, 0, 0, 17), -1);
        Check.due("bytes 1985 to 2016", x.bytes(0, 0, 0, 0, 32), -1);
        Check.due("no bytes behind 1984", x.bytes(0, 0, 0, 0, 0), 1984);
        Check.due("bytes 1985 to 2000", x.bytes(0, 0, 0, 0, 16), 2000);
        Check.due("byte 2001", x.bytes(0, 0, 0, 0, 1), -1);
        Check.due("no bytes behind 2000", x.bytes(0, 0, 0, 0, 0), 2000);
        Check.due("the TAPE", tapeLength(x), 2000);
        Check.due("the next TAPE", x.bytes(0, 0, 0, 0, 1), 1);
    }

    /** 4: "The first n bytes .. of four longs, the highest of each first": the last of one and the first of the next. */
    private static void bytesGoOnInTheNextLong() {
        for (int n : new int[] {1, 7, 8, 9, 15, 16, 17, 23, 24, 25, 31, 32}) {
            DrumMachine x = new DrumMachine();
            x.bytes(0x8081828384858687L, 0x9091929394959697L, 0xa0a1a2a3a4a5a6a7L, 0xf0f1f2f3f4f5f6f7L, n);
            Check.take(x, 999, Check.order(33, 0), Check.order(27, 4), Check.order(32, 0), STAY, END);
            x.run(2000);
            int last = n - 1;
            int eight = last < 24 ? 0x80 + 0x10 * (last / 8) : 0xf0;
            Check.due("the first of " + n + " bytes", x.out(0, 0), 0x80);
            Check.due("the last of " + n + " bytes", x.out(0, last), eight + last % 8);
            Check.due("no byte behind " + n, x.out(0, n), -1);
        }
    }

    /** 5: "both are empty then", also of words that are not in the program. */
    private static void jobLeavesAnEmptyTray() {
        DrumMachine x = new DrumMachine();
        x.words(END, 1, 2, 3, 4);
        x.bytes(0, 0, 0, 0, 9);
        Check.due("a job of one word of five", x.job(1, 1), 0);
        Check.due("its word 1", x.word(0, 1), 0);
        Check.due("a job of what was left", x.job(1, 1), -1);
        Check.due("words of the empty tray", x.words(END, 0, 0, 0, 0), 5);
        Check.due("the empty tape", x.bytes(0, 0, 0, 0, 0), 0);
    }

    /** 5: "Answers its number, 0, 1, ..; -1, and nothing is changed, if 12 were taken". */
    private static void jobsAreAtMost12() {
        DrumMachine x = new DrumMachine();
        for (int j = 0; j < 12; j++) {
            Check.due("job number " + j, Check.take(x, 9, "abc", END), j);
            Check.due("ended of the next", x.ended(j + 1), -1);
        }
        x.words(END, 0, 0, 0, 0);
        x.bytes(0, 0, 0, 0, 3);
        Check.due("a thirteenth job", x.job(9, 1), -1);
        Check.due("BLOCKS behind it", x.told(5), 12);
        Check.due("run behind it", x.run(0), 12);
        x.run(20000);
        Check.due("a thirteenth job behind all ends", x.job(9, 1), -1);
        Check.due("the tray's words are left", x.words(0, 0, 0, 0, 0), 10);
        Check.due("the tray's bytes are left", x.bytes(0, 0, 0, 0, 0), 3);
        Check.due("ended(11)", x.ended(11), 1);
        Check.due("ended(12)", x.ended(12), -1);
    }

    /** 5: "-1, and nothing is changed, if .. LIMIT is not 1 to 10000". */
    private static void limitIs1To10000() {
        DrumMachine x = new DrumMachine();
        x.words(STAY, 0, 0, 0, 0);
        x.bytes(0, 0, 0, 0, 3);
        for (int limit : new int[] {0, -1, 10001, LEAST_INT, GREATEST_INT}) {
            Check.due("a job of LIMIT " + limit, x.job(limit, 1), -1);
            Check.due("run behind it", x.run(0), 0);
            Check.due("BLOCKS behind it", x.told(5), 0);
        }
        Check.due("the tray's bytes are left", x.bytes(0, 0, 0, 0, 0), 3);
        Check.due("a job of LIMIT 1", x.job(1, 5), 0);
        x.words(STAY, 0, 0, 0, 0);
        Check.due("a job of LIMIT 10000", x.job(10000, 1), 1);
        x.run(20000);
        Check.due("done(0)", x.done(0), 1);
        Check.due("done(1)", x.done(1), 10000);
    }

    /** 5: "-1, and nothing is changed, if .. n is below 1 or above what the tray has". */
    private static void wordsOfAJobAre1ToWhatTheTrayHas() {
        DrumMachine x = new DrumMachine();
        x.words(1, 2, 3, 4, 5);
        x.words(6, 7, 8, 9, 10);
        for (int n : new int[] {0, -1, 11, LEAST_INT, GREATEST_INT}) {
            Check.due("a job of " + n + " words of 10", x.job(1, n), -1);
            Check.due("run behind it", x.run(0), 0);
        }
        Check.due("a job of 10 words of 10", x.job(1, 10), 0);
        Check.due("its last word", x.word(0, 9), 10);
        x.words(11, 12, 13, 14, 15);
        Check.due("a job of 1 word of 5", x.job(1, 1), 1);
        Check.due("its word 0", x.word(1, 0), 11);
        Check.due("its word 1", x.word(1, 1), 0);
    }

    /** 5: "-1, and nothing is changed, if .. of the BLOCKS too many would exist". */
    private static void blocksOfAJobAreNotTooMany() {
        DrumMachine x = new DrumMachine();
        Check.due("a job of 31 BLOCKS", Check.take(x, 9, new long[496]), 0);
        Check.due("a job of 31 BLOCKS more", Check.take(x, 9, new long[496]), 1);
        Check.fillTray(x, new long[35]);
        x.bytes(0, 0, 0, 0, 3);
        Check.due("a job of the BLOCKS 63 to 65", x.job(9, 33), -1);
        Check.due("BLOCKS behind it", x.told(5), 62);
        Check.dueSector(x, 61, 1030);
        Check.dueSector(x, 62, -1);
        Check.due("the tray's words are left", x.words(0, 0, 0, 0, 0), 40);
        Check.due("the tray's bytes are left", x.bytes(0, 0, 0, 0, 0), 3);
        Check.due("a job of the BLOCKS 63 and 64", x.job(9, 32), 2);
        Check.due("BLOCKS", x.told(5), 64);
        Check.dueSector(x, 63, 2001);
        Check.due("a job of BLOCK 65", Check.take(x, 9, END), -1);
        Check.due("ended(3)", x.ended(3), -1);
    }

    /** 6: "So many ticks ..; -1, and nothing is done, if it is not 0 to 20000". */
    private static void runIs0To20000() {
        DrumMachine x = new DrumMachine();
        Check.take(x, 10000, STAY);
        Check.take(x, 10000, STAY);
        for (int ticks : new int[] {-1, 20001, LEAST_INT, GREATEST_INT}) {
            Check.due("run(" + ticks + ")", x.run(ticks), -1);
            Check.due("clock behind it", x.clock(), 0);
            Check.due("in hand behind it", x.told(7), -1);
        }
        Check.due("run(0)", x.run(0), 2);
        Check.due("clock behind run(0)", x.clock(), 0);
        Check.due("run(1)", x.run(1), 2);
        Check.due("clock behind run(1)", x.clock(), 1);
        // The first job does 10000 INSTRUCTIONS from 34 on and ends at 10034.
        Check.due("run(20000)", x.run(20000), 1);
        Check.due("clock behind run(20000)", x.clock(), 20001);
        Check.due("done(1)", x.done(1), 20001 - 10035);
        Check.due("run(20001)", x.run(20001), -1);
        Check.due("clock behind run(20001)", x.clock(), 20001);
    }

    /** 6: "or till all jobs that were taken have ended (with the tick in which the last one does)". */
    private static void runEndsWithTheLastJob() {
        DrumMachine x = new DrumMachine();
        x.frames(3);
        Check.take(x, 9, END);
        Check.take(x, 9, END);
        // The job that was taken last ends at 36 + 32: its SECTOR 1 passes at 66.
        Check.due("run(68)", x.run(68), 1);
        Check.due("clock", x.clock(), 68);
        Check.due("run(100)", x.run(100), 0);
        Check.due("clock", x.clock(), 69);
        Check.due("run(100) again", x.run(100), 0);
        Check.due("clock", x.clock(), 69);
        Check.take(x, 9, END);
        Check.due("run(1) with a new job", x.run(1), 1);
        Check.due("clock", x.clock(), 70);
    }

    /** 6: "till all jobs that were taken have ended": with none taken there is no tick. */
    private static void runWithoutJobs() {
        DrumMachine x = new DrumMachine();
        Check.due("run(20000) without jobs", x.run(20000), 0);
        Check.due("run(20001) without jobs", x.run(20001), -1);
        Check.due("run(-1) without jobs", x.run(-1), -1);
        Check.due("clock without jobs", x.clock(), 0);
        Check.due("IDLE without jobs", x.told(3), 0);
    }

    /** 7: "How a job ended; 0 if it has not". */
    private static void endedIsZeroBeforeTheEnd() {
        DrumMachine x = new DrumMachine();
        Check.take(x, 1, STAY);
        Check.due("ended(0) of a job that was taken", x.ended(0), 0);
        x.run(35);
        Check.due("done(0), the LIMIT", x.done(0), 1);
        Check.due("ended(0) behind its last INSTRUCTION", x.ended(0), 0);
        x.run(1);
        Check.due("ended(0) behind the tick of its end", x.ended(0), 2);
    }

    /** 7 to 12: "-1 if there is none", "-1 for another", "0 .. without a job". */
    private static void answersWithoutAJob() {
        DrumMachine x = new DrumMachine();
        Check.take(x, 9, Check.order(23, 65), Check.order(32, 0), Check.order(29, 2));
        x.run(40);
        for (int j : new int[] {-1, 1, 11, 12, LEAST_INT, GREATEST_INT}) {
            Check.due("ended(" + j + ")", x.ended(j), -1);
            Check.due("done(" + j + ")", x.done(j), -1);
            Check.due("printed(" + j + ")", x.printed(j), -1);
            Check.due("out(" + j + ", 0)", x.out(j, 0), -1);
            Check.due("register(" + j + ", -1)", x.register(j, -1), 0);
            Check.due("register(" + j + ", 128)", x.register(j, 128), 0);
            Check.due("word(" + j + ", 0)", x.word(j, 0), 0);
        }
        Check.due("done(0)", x.done(0), 6);
        Check.due("printed(0)", x.printed(0), 1);
        Check.due("out(0, 0)", x.out(0, 0), 65);
    }

    /** 10: "The i-th of these, 0 to 255; -1 for another". */
    private static void outIsOneOfThePrinted() {
        DrumMachine x = new DrumMachine();
        Check.take(x, 99, Check.order(32, 0), Check.order(23, -1), Check.order(32, 0), Check.order(23, 0x7fff80), Check.order(32, 0),
                Check.order(29, 5));
        Check.due("out(0, 0) of none", x.out(0, 0), -1);
        x.run(50);
        int[] due = {0, 255, 128};
        for (int i = 0; i < due.length; i++) {
            Check.due("out(0, " + i + ")", x.out(0, i), due[i]);
        }
        for (int i : new int[] {-1, 3, 399, 400, LEAST_INT, GREATEST_INT}) {
            Check.due("out(0, " + i + ")", x.out(0, i), -1);
        }
    }

    /** 11: "0 for another, or without a job"; registers stay when the job has ended. */
    private static void registersAreMinus1To128() {
        DrumMachine x = new DrumMachine();
        Check.take(x, 99, Check.order(1, 127, 0, 7), Check.order(1, 1, 0, -8), Check.order(23, -9), Check.order(29, 9));
        for (int what = -1; what <= 128; what++) {
            Check.due("register(0, " + what + ") at first", x.register(0, what), 0);
        }
        x.run(99);
        Check.due("ended(0): word 9 is no INSTRUCTION", x.ended(0), 3);
        Check.due("register(0, -1)", x.register(0, -1), -9);
        Check.due("register(0, 0)", x.register(0, 0), 0);
        Check.due("register(0, 1)", x.register(0, 1), -8);
        Check.due("register(0, 126)", x.register(0, 126), 0);
        Check.due("register(0, 127)", x.register(0, 127), 7);
        Check.due("register(0, 128)", x.register(0, 128), 9);
        for (int what : new int[] {-2, 129, LEAST_INT, GREATEST_INT}) {
            Check.due("register(0, " + what + ")", x.register(0, what), 0);
        }
    }

    /** 12: "0 .. for another address". */
    private static void wordIsAnAddressOfTheStore() {
        DrumMachine x = new DrumMachine();
        Check.take(x, 99, Check.order(23, 77), Check.order(20, 1023), Check.order(29, 2));
        x.run(40);
        Check.due("word(0, 0)", x.word(0, 0), Check.order(23, 77));
        Check.due("word(0, 1023)", x.word(0, 1023), 77);
        Check.due("word(0, 1022)", x.word(0, 1022), 0);
        for (int address : new int[] {-1, 1024, -1024, 1 << 24, LEAST_INT, GREATEST_INT}) {
            Check.due("word(0, " + address + ")", x.word(0, address), 0);
        }
    }

    /** 12: "also of a BLOCK that does not exist (0)"; it does not exist by that. */
    private static void wordOfABlockThatDoesNotExist() {
        DrumMachine x = new DrumMachine();
        Check.take(x, 99, STAY);
        x.run(40);
        for (int address = 16; address < 1024; address += 16) {
            Check.due("word(0, " + address + ")", x.word(0, address), 0);
        }
        Check.due("BLOCKS", x.told(5), 1);
        Check.dueFree(x, 1);
    }

    /** 12: "as it sees it": in a FRAME, on a SECTOR, and on the way. */
    private static void wordOfABlockOnItsWay() {
        DrumMachine x = new DrumMachine();
        x.frames(3);
        Check.take(x, 99, Check.order(23, 77), Check.order(20, 16), Check.order(20, 32), Check.order(1, 1, 0, 3),
                Check.order(10, 1, 0, 4), Check.order(16, 16), Check.order(29, 6));
        // The WRITE of block 1 is at 37 to 40, the READ of it is asked for at 41.
        x.run(36);
        for (int c = 36; c < 76; c++) {
            Check.due("clock " + c + ": word(0, 16)", x.word(0, 16), 77);
            Check.due("clock " + c + ": word(0, 17)", x.word(0, 17), 0);
            Check.due("clock " + c + ": word(0, 0)", x.word(0, 0), Check.order(23, 77));
            x.run(1);
        }
        Check.due("READS", x.told(0), 2);
        Check.due("WRITES", x.told(1), 2);
    }

    /** 12: "0 if it ended", also while a WRITE of its BLOCK is under way. */
    private static void wordOfAJobThatEnded() {
        DrumMachine x = new DrumMachine();
        x.frames(3);
        Check.take(x, 99, Check.order(23, 77), Check.order(20, 16), Check.order(20, 32), END);
        x.run(37);
        Check.due("word(0, 16)", x.word(0, 16), 77);
        x.run(1);
        Check.due("ended(0)", x.ended(0), 1);
        Check.dueFrame(x, 1, 0, 1, 1, 0, 0);
        Check.due("word(0, 16) of a job that ended", x.word(0, 16), 0);
        Check.due("word(0, 0) of a job that ended", x.word(0, 0), 0);
    }

    /** 13: only ticks move it. */
    private static void clockStandsStill() {
        DrumMachine x = new DrumMachine();
        Check.due("clock of a new object", x.clock(), 0);
        Check.take(x, 99, STAY);
        Check.due("clock behind a job", x.clock(), 0);
        x.run(0);
        x.run(-1);
        Check.due("clock behind no tick", x.clock(), 0);
        x.run(7);
        x.digest();
        x.told(2);
        x.word(0, 0);
        Check.due("clock behind 7 ticks", x.clock(), 7);
    }

    /** 14: "0 for another". */
    private static void toldIs0To7() {
        DrumMachine x = new DrumMachine();
        Check.take(x, 99, Check.order(20, 16), STAY);
        Check.take(x, 99, STAY);
        x.run(60);
        Check.dueTold(x, 2, 0, 2, 32, 1, 3, 2, 0);
        for (int what : new int[] {-1, 8, 9, LEAST_INT, GREATEST_INT}) {
            Check.due("told(" + what + ")", x.told(what), 0);
        }
    }

    /** 14: "7 the job in hand, -1 if none ever was"; a job that ended, or waits, is still told. */
    private static void toldJobInHandIfNoneEverWas() {
        DrumMachine x = new DrumMachine();
        Check.due("in hand of a new object", x.told(7), -1);
        Check.take(x, 99, END);
        x.run(0);
        Check.due("in hand before the first tick", x.told(7), -1);
        x.run(1);
        Check.due("in hand behind the first tick", x.told(7), 0);
        x.run(1);
        Check.due("in hand behind an IDLE tick", x.told(7), 0);
        x.run(99);
        Check.due("in hand behind its end", x.told(7), 0);
    }

    /** 15: "-1 for another". */
    private static void frameIsOneOfF() {
        for (int f = 3; f <= 17; f++) {
            DrumMachine x = new DrumMachine();
            x.frames(f);
            Check.take(x, 99, STAY);
            x.run(40);
            for (int other : new int[] {-1, f, 18, LEAST_INT, GREATEST_INT}) {
                for (int what = 0; what <= 4; what++) {
                    Check.due("frame(" + other + ", " + what + ") of " + f, x.frame(other, what), -1);
                }
            }
            for (int what : new int[] {-1, 5, LEAST_INT, GREATEST_INT}) {
                Check.due("frame(0, " + what + ")", x.frame(0, what), -1);
                Check.due("frame(" + (f - 1) + ", " + what + ")", x.frame(f - 1, what), -1);
            }
            Check.dueFrame(x, 0, 0, 0, 0, 0, 0);
            Check.dueFree(x, f - 1);
        }
    }

    /** 15: "(-1: it is free)", "(-1)", "0 for a free .. one". */
    private static void frameThatIsFree() {
        DrumMachine x = new DrumMachine();
        for (int f = 0; f < 7; f++) {
            Check.dueFree(x, f);
        }
        Check.take(x, 99, Check.order(20, 16), Check.order(1, 1, 0, 40), Check.order(10, 1, 0, 2), END);
        x.run(75);
        Check.dueFrame(x, 1, 0, 1, 0, 1, 0);
        x.run(99);
        Check.due("ended(0)", x.ended(0), 1);
        Check.dueFree(x, 0);
        Check.dueFree(x, 1);
    }

    /** 15: "the job whose BLOCK it has, or is to have", t and T "0 for a .. LOCKED one". */
    private static void frameThatIsLocked() {
        DrumMachine x = new DrumMachine();
        x.frames(3);
        Check.take(x, 999, Check.order(20, 32), Check.order(1, 1, 0, 40), Check.order(10, 1, 0, 2), Check.order(20, 48),
                Check.order(29, 4));
        x.run(1);
        Check.dueFrame(x, 0, 0, 0, 1, 0, 0);
        // The 43rd INSTRUCTION is done at 76, the ROUNDS were behind the 16th and the 32nd.
        x.run(76);
        Check.dueFrame(x, 1, 0, 2, 0, 1, 0);
        Check.dueFrame(x, 2, 0, 3, 0, 0, 0);
        x.run(1);
        Check.dueFrame(x, 1, 0, 2, 1, 0, 0);
    }

    /** 16: "-1 if it is free, or for another". */
    private static void sectorIsOneOf64() {
        DrumMachine x = new DrumMachine();
        Check.take(x, 9, new long[1000]);
        Check.take(x, 9, new long[16]);
        Check.dueSector(x, 0, 0);
        Check.dueSector(x, 62, 62);
        Check.dueSector(x, 63, 1000);
        for (int d : new int[] {-1, 64, LEAST_INT, GREATEST_INT}) {
            Check.dueSector(x, d, -1);
        }
    }

    /** 16: "also of one that is being written to it"; one that is being read from it is there no more. */
    private static void sectorOfATransfer() {
        DrumMachine x = new DrumMachine();
        x.frames(3);
        Check.take(x, 99, Check.order(20, 16), Check.order(20, 32), Check.order(29, 2));
        x.run(1);
        Check.dueSector(x, 0, 0);
        x.run(1);
        Check.dueSector(x, 0, -1);
        x.run(34);
        Check.dueSector(x, 2, -1);
        x.run(1);
        Check.dueSector(x, 2, 1);
        x.run(3);
        Check.dueSector(x, 2, 1);
        Check.dueFree(x, 1);
    }

    private static long behind(long d, long... numbers) {
        long all = d;
        for (long x : numbers) {
            all = all * 31 + x;
        }
        return all;
    }

    private static long behindFree(long d, int frames) {
        long all = d;
        for (int f = 0; f < frames; f++) {
            all = behind(all, -1, -1, 0, 0, 0);
        }
        return all;
    }

    /** 17: without a job "the clock, told(0) to told(7), and frame(f, 0) to frame(f, 4) for all FRAMES". */
    private static void digestOfNoJob() {
        DrumMachine x = new DrumMachine();
        long start = behind(7, 0, 0, 0, 0, 0, 0, 0, 0, -1);
        Check.due("digest of seven frames", x.digest(), behindFree(start, 7));
        x.frames(3);
        Check.due("digest of three frames", x.digest(), behindFree(start, 3));
        x.frames(17);
        Check.due("digest of seventeen frames", x.digest(), behindFree(start, 17));
    }

    /** 17: "and, if it has not ended, all 1024 words". */
    private static void digestOfAJobThatEnded() {
        DrumMachine x = new DrumMachine();
        long[] program = {Check.order(23, -65), Check.order(32, 0), END};
        Check.take(x, 9, program);
        long words = behind(7, 0, 0, 0, 0);
        for (int i = 0; i < 1024; i++) {
            words = behind(words, i < 3 ? program[i] : 0);
        }
        Check.due("digest of a new job", x.digest(), behindFree(behind(words, 0, 0, 0, 0, 0, 0, 1, 1, -1), 7));
        x.run(100);
        long start = behind(7, 3, 1, 1, 191, -65);
        Check.due("digest of a job that ended", x.digest(), behindFree(behind(start, 37, 1, 0, 1, 33, 0, 0, 0, 0), 7));
    }
}
