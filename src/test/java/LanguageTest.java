import java.io.IOException;
import java.nio.file.Files;
import java.nio.file.Path;
import java.util.Random;
import java.util.regex.Matcher;
import java.util.regex.Pattern;

/** Rules of LANGUAGE.md that can be looked at, and calls with any arguments, none of which may throw. */
final class LanguageTest {
    private static final String SOURCE = "src/main/java/DrumMachine.java";
    private static final String[] RULED_OUT = {"\\bthrow\\b", "\\btry\\b", "\\bcatch\\b", "\\bsynchronized\\b", "\\bassert\\b",
        "->", "::", "\\bimport\\b", "\\bpackage\\b", "Exact\\b", "\\bprotected\\b", "\\bnew \\w+\\(.*\\) \\{", "\\bdouble\\b",
        "\\bfloat\\b", "\\bSystem\\.(?!arraycopy)", "\\bstatic \\{", "\"", "\\bThread\\b", "\\bRandom\\b"};

    public static void main(String[] args) throws IOException {
        String source = Files.readString(Path.of(SOURCE)).replaceAll("(?s)/\\*.*?\\*/", "").replaceAll("//.*", "");
        for (String pattern : RULED_OUT) {
            Check.due("places with " + pattern, count(source, pattern), 0);
        }
        Check.due("static fields that are not final", count(source, "static (?!final)[^({]*[;=]"), 0);
        Check.due("classes that are not static", count(source, "(?<!static final |public final )\\bclass\\b"), 0);
        noCallThrows();
        Check.finish();
    }

    private static int count(String source, String pattern) {
        Matcher matcher = Pattern.compile(pattern).matcher(source);
        int n = 0;
        while (matcher.find()) {
            n++;
        }
        return n;
    }

    private static void noCallThrows() {
        for (long seed = 1; seed <= 300; seed++) {
            Random draw = new Random(seed);
            DrumMachine x = new DrumMachine();
            for (int i = 0; i < 512; i++) {
                call(x, draw);
            }
            Check.due("jobs that have not ended, seed " + seed, x.run(-1), -1);
        }
    }

    private static int any(Random draw) {
        int[] edges = {Integer.MIN_VALUE, -2, -1, 0, 1, 2, 3, 7, 12, 17, 32, 63, 64, 127, 128, 400, 1023, 1024,
            Integer.MAX_VALUE};
        int kind = draw.nextInt(4);
        return kind == 0 ? draw.nextInt() : kind == 1 ? draw.nextInt(30) : edges[draw.nextInt(edges.length)];
    }

    private static long anyWord(Random draw) {
        return draw.nextInt(3) == 0 ? draw.nextLong()
                : Check.order(draw.nextInt(70), draw.nextInt(128), draw.nextInt(128), any(draw));
    }

    private static void call(DrumMachine x, Random draw) {
        switch (draw.nextInt(18)) {
            case 0 -> x.frames(any(draw));
            case 1, 2, 3 -> x.words(anyWord(draw), anyWord(draw), anyWord(draw), anyWord(draw), anyWord(draw));
            case 4 -> x.bytes(draw.nextLong(), draw.nextLong(), draw.nextLong(), draw.nextLong(), any(draw));
            case 5 -> x.job(any(draw), any(draw));
            case 6 -> x.run(any(draw));
            case 7 -> x.ended(any(draw));
            case 8 -> x.done(any(draw));
            case 9 -> x.printed(any(draw));
            case 10 -> x.out(any(draw), any(draw));
            case 11 -> x.register(any(draw), any(draw));
            case 12 -> x.word(any(draw), any(draw));
            case 13 -> x.clock();
            case 14 -> x.told(any(draw));
            case 15 -> x.frame(any(draw), any(draw));
            case 16 -> x.sector(any(draw));
            default -> x.digest();
        }
    }
}
