/** How jobs are handed in: promises 2 to 5. */
final class TrayTest {
    public static void main(String[] args) {
        framesHaveBounds();
        framesAreFixedByTheFirstJob();
        wordsHaveABound();
        wordsAreCutTo48Bits();
        bytesHaveBounds();
        bytesComeHighestFirst();
        jobRefusesWrongArguments();
        jobEmptiesTheTray();
        twelveJobsAtMost();
        blocksOfAllJobsAreBounded();
        programsAreLoadedToTheLowestSectors();
        Check.finish();
    }

    private static void framesHaveBounds() {
        DrumMachine x = new DrumMachine();
        int[] refused = {2, 18, 0, -1, Integer.MIN_VALUE, Integer.MAX_VALUE};
        for (int f : refused) {
            Check.due("frames(" + f + ")", x.frames(f), -1);
            Check.due("the seventh frame behind frames(" + f + ")", x.frame(6, 2), 0);
            Check.due("no eighth frame behind frames(" + f + ")", x.frame(7, 2), -1);
        }
        for (int f = 3; f <= 17; f++) {
            Check.due("frames(" + f + ")", x.frames(f), f);
            Check.due("the last frame of " + f, x.frame(f - 1, 0), -1);
            Check.due("the last frame of " + f, x.frame(f - 1, 2), 0);
            Check.due("the frame behind the last of " + f, x.frame(f, 2), -1);
        }
        Check.due("frames(3) behind frames(17)", x.frames(3), 3);
        Check.due("no fourth frame", x.frame(3, 2), -1);
    }

    private static void framesAreFixedByTheFirstJob() {
        DrumMachine x = new DrumMachine();
        Check.due("frames(4)", x.frames(4), 4);
        Check.due("a job that is refused", x.job(1, 1), -1);
        Check.due("frames(5) behind a job that was refused", x.frames(5), 5);
        Check.take(x, 9, Check.order(34, 0));
        Check.due("frames(7) behind a job", x.frames(7), -1);
        Check.due("frame(4, 2)", x.frame(4, 2), 0);
        Check.due("frame(5, 2)", x.frame(5, 2), -1);
        x.run(100);
        Check.due("frames(7) behind the end of all jobs", x.frames(7), -1);
    }

    private static void wordsHaveABound() {
        DrumMachine x = new DrumMachine();
        for (int i = 1; i <= 200; i++) {
            Check.due("words, call " + i, x.words(i, 0, 0, 0, 0), 5 * i);
        }
        Check.due("words to a full tray", x.words(1, 2, 3, 4, 5), -1);
        Check.due("words to a full tray again", x.words(1, 2, 3, 4, 5), -1);
        Check.due("a job of 1001 words", x.job(1, 1001), -1);
        Check.due("a job of 1000 words", x.job(1, 1000), 0);
        Check.due("the word of the last call", x.word(0, 995), 200);
        Check.due("words to the emptied tray", x.words(1, 2, 3, 4, 5), 5);
    }

    private static void wordsAreCutTo48Bits() {
        DrumMachine x = new DrumMachine();
        x.words(1L << 47, (1L << 47) - 1, -1L, 5L + (7L << 48), Long.MIN_VALUE);
        x.words((1L << 48) - 1, -(1L << 47), -(1L << 47) - 1, Long.MAX_VALUE, 0x7fff_0000_0000_0001L);
        x.job(1, 10);
        long least = -(1L << 47);
        long[] due = {least, -1 - least, -1, 5, 0, -1, least, -1 - least, -1, 1};
        for (int i = 0; i < due.length; i++) {
            Check.due("word(0, " + i + ")", x.word(0, i), due[i]);
        }
    }

    private static void bytesHaveBounds() {
        DrumMachine x = new DrumMachine();
        int[] refused = {-1, 33, Integer.MIN_VALUE, Integer.MAX_VALUE};
        for (int n : refused) {
            Check.due("bytes of " + n, x.bytes(1, 2, 3, 4, n), -1);
        }
        Check.due("bytes of 0", x.bytes(1, 2, 3, 4, 0), 0);
        for (int i = 1; i <= 62; i++) {
            Check.due("bytes, call " + i, x.bytes(1, 2, 3, 4, 32), 32 * i);
        }
        Check.due("bytes: 17 more than 1984", x.bytes(1, 2, 3, 4, 17), -1);
        Check.due("bytes: 15 more", x.bytes(1, 2, 3, 4, 15), 1999);
        Check.due("bytes: 2 more than 1999", x.bytes(1, 2, 3, 4, 2), -1);
        Check.due("bytes: 1 more", x.bytes(1, 2, 3, 4, 1), 2000);
        Check.due("bytes: 1 more than 2000", x.bytes(1, 2, 3, 4, 1), -1);
        Check.due("bytes: none more than 2000", x.bytes(1, 2, 3, 4, 0), 2000);
    }

    /** A job that prints its TAPE till none is left. */
    private static long[] copier() {
        return new long[] {Check.order(33, 0), Check.order(27, 4), Check.order(32, 0), Check.order(29, 0),
            Check.order(34, 0)};
    }

    private static void bytesComeHighestFirst() {
        for (int n = 0; n <= 32; n++) {
            DrumMachine x = new DrumMachine();
            x.bytes(0x0102030405060708L, 0x090a0b0c0d0e0f10L, 0xf1f2f3f4f5f6f7f8L, 0x8081828384858687L, n);
            x.bytes(0xff00000000000000L, 0, 0, 0, 1);
            Check.fillTray(x, copier());
            x.job(1000, 5);
            x.run(20000);
            Check.due("printed of " + n + " and one", x.printed(0), n + 1);
            for (int i = 0; i < n; i++) {
                int due = i < 16 ? i + 1 : i < 24 ? 0xf1 + i - 16 : 0x80 + i - 24;
                Check.due("byte " + i + " of " + n, x.out(0, i), due);
            }
            Check.due("the byte behind " + n, x.out(0, n), 255);
        }
    }

    private static void jobRefusesWrongArguments() {
        DrumMachine x = new DrumMachine();
        x.words(Check.order(34, 0), 0, 0, 0, 0);
        x.bytes(0, 0, 0, 0, 9);
        int[][] refused = {{0, 1}, {-1, 1}, {10001, 1}, {Integer.MAX_VALUE, 1}, {Integer.MIN_VALUE, 1}, {1, 0},
            {1, -1}, {1, 6}, {1, Integer.MAX_VALUE}, {1, Integer.MIN_VALUE}};
        long before = x.digest();
        for (int[] pair : refused) {
            Check.due("job(" + pair[0] + ", " + pair[1] + ")", x.job(pair[0], pair[1]), -1);
        }
        Check.due("digest() behind jobs that were refused", x.digest(), before);
        Check.due("the tray keeps its bytes", x.bytes(0, 0, 0, 0, 1), 10);
        Check.due("job(10000, 5)", x.job(10000, 5), 0);
        x.words(Check.order(34, 0), 0, 0, 0, 0);
        Check.due("job(1, 1)", x.job(1, 1), 1);
    }

    private static void jobEmptiesTheTray() {
        DrumMachine x = new DrumMachine();
        Check.fillTray(x, copier());
        Check.fillTray(x, 11, 12, 13, 14, 15);
        Check.fillTape(x, new byte[] {65, 66});
        Check.due("a job of 5 of 10 words", x.job(100, 5), 0);
        Check.due("the words that it left", x.word(0, 5), 0);
        Check.due("a job of the emptied tray", x.job(100, 1), -1);
        Check.due("bytes of the emptied tape", x.bytes(0, 0, 0, 0, 0), 0);
        Check.fillTray(x, copier());
        Check.due("a job without a tape", x.job(100, 5), 1);
        x.run(20000);
        Check.dueText("output of the first", Check.output(x, 0), "AB");
        Check.dueText("output of the second", Check.output(x, 1), "");
        Check.due("the second ended", x.ended(1), 1);
    }

    private static void twelveJobsAtMost() {
        DrumMachine x = new DrumMachine();
        for (int j = 0; j < 12; j++) {
            Check.due("job " + j, Check.take(x, 1, Check.order(34, 0)), j);
        }
        Check.due("a thirteenth job", Check.take(x, 1, Check.order(34, 0)), -1);
        x.run(20000);
        Check.due("a thirteenth job behind the ends", x.job(1, 1), -1);
        Check.due("done(11)", x.done(11), 1);
        Check.due("done(12)", x.done(12), -1);
    }

    private static void blocksOfAllJobsAreBounded() {
        DrumMachine x = new DrumMachine();
        Check.due("a job of 63 blocks", Check.take(x, 9, new long[1000]), 0);
        Check.due("told(5)", x.told(5), 63);
        Check.fillTray(x, new long[17]);
        Check.due("a job of two blocks more", x.job(1, 17), -1);
        Check.due("told(5) behind it", x.told(5), 63);
        Check.due("a job of one block more", x.job(1, 16), 1);
        Check.due("told(5) of a full drum", x.told(5), 64);
        Check.due("sector(62)", x.sector(62), 62);
        Check.due("sector(63)", x.sector(63), 1000);
        Check.fillTray(x, 0);
        Check.due("a job with a full drum", x.job(1, 1), -1);
        x.run(20000);
        Check.due("told(5) behind all ends", x.told(5), 0);
        Check.due("a job behind all ends", x.job(1, 1), 2);
    }

    private static void programsAreLoadedToTheLowestSectors() {
        DrumMachine x = new DrumMachine();
        Check.take(x, 9, new long[16]);
        Check.take(x, 9, new long[33]);
        int[] due = {0, 1000, 1001, 1002, -1};
        for (int d = 0; d < due.length; d++) {
            Check.due("sector(" + d + ")", x.sector(d), due[d]);
        }
        Check.due("told(5)", x.told(5), 4);
        Check.due("told(6)", x.told(6), 2);
        Check.due("told(7)", x.told(7), -1);
    }
}
