/** Promise 17: the digest is made of what other calls answer. */
final class DigestTest {
    public static void main(String[] args) {
        ofANewObject();
        ofARun();
        Check.finish();
    }

    private static long computed(DrumMachine x, int jobs, int frames) {
        long d = 7;
        for (int j = 0; j < jobs; j++) {
            d = d * 31 + x.done(j);
            d = d * 31 + x.ended(j);
            d = d * 31 + x.printed(j);
            for (int i = 0; i < x.printed(j); i++) {
                d = d * 31 + x.out(j, i);
            }
            d = d * 31 + x.register(j, -1);
            for (int i = 0; x.ended(j) == 0 && i < 1024; i++) {
                d = d * 31 + x.word(j, i);
            }
        }
        d = d * 31 + x.clock();
        for (int what = 0; what <= 7; what++) {
            d = d * 31 + x.told(what);
        }
        for (int f = 0; f < frames; f++) {
            for (int what = 0; what <= 4; what++) {
                d = d * 31 + x.frame(f, what);
            }
        }
        return d;
    }

    private static void ofANewObject() {
        DrumMachine x = new DrumMachine();
        long first = x.digest();
        Check.due("digest() of a new object", first, computed(x, 0, 7));
        Check.due("digest() again", x.digest(), first);
        x.words(1, 2, 3, 4, 5);
        Check.due("digest() with words on the tray", x.digest(), first);
        x.frames(3);
        Check.due("digest() of three frames", x.digest(), computed(x, 0, 3));
    }

    private static void ofARun() {
        DrumMachine x = new DrumMachine();
        x.frames(5);
        for (int j = 0; j < 4; j++) {
            Check.take(x, 150 + j, "-5 7 9", Check.order(67, 0), Check.order(1, 1, 0, 20), Check.order(20, 1, 1, 30),
                    Check.order(66, 0), Check.order(10, 1, 0, 2), j == 3 ? Check.order(29, 0) : Check.order(34, 0));
        }
        for (int i = 0; i < 60; i++) {
            x.run(i);
            Check.due("digest() at " + x.clock(), x.digest(), computed(x, 4, 5));
        }
        Check.due("all have ended", x.run(20000), 0);
        Check.due("digest() of the end", x.digest(), computed(x, 4, 5));
    }
}
