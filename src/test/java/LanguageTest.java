import java.io.IOException;
import java.lang.reflect.Field;
import java.lang.reflect.Method;
import java.lang.reflect.Modifier;
import java.nio.file.Files;
import java.nio.file.Path;
import java.util.Random;
import java.util.Set;
import java.util.TreeSet;
import java.util.regex.Matcher;
import java.util.regex.Pattern;

/** Rules of LANGUAGE.md that can be looked at, and calls with any arguments, none of which may throw. */
final class LanguageTest {
    private static final String SOURCE = "src/main/java/DrumMachine.java";
    private static final String[] RULED_OUT = {"\\bthrow\\b", "\\btry\\b", "\\bcatch\\b", "\\bsynchronized\\b", "\\bassert\\b",
        "->", "::", "\\bimport\\b", "\\bpackage\\b", "Exact\\b", "\\bprotected\\b", "\\bnew \\w+\\(.*\\) \\{", "\\bdouble\\b",
        "\\bfloat\\b", "\\bSystem\\.(?!arraycopy)", "\\bstatic \\{", "\"", "\\bThread\\b", "\\bRandom\\b",
        "\\b(Integer|Long|Arrays|String)\\b", "\\bMath\\.(?!(max|min|abs|floorMod|floorDiv)\\()"};

    public static void main(String[] args) throws IOException {
        String source = Files.readString(Path.of(SOURCE)).replaceAll("(?s)/\\*.*?\\*/", "").replaceAll("//.*", "");
        for (String pattern : RULED_OUT) {
            Check.due("places with " + pattern, count(source, pattern), 0);
        }
        Check.due("static fields that are not final", count(source, "static (?!final)[^({]*[;=]"), 0);
        Check.due("classes that are not static", count(source, "(?<!static final |public final )\\bclass\\b"), 0);
        for (Class<?> one : DrumMachine.class.getDeclaredClasses()) {
            Check.due("a private and static class: " + one.getName(),
                    one.getModifiers() & (Modifier.PRIVATE | Modifier.STATIC), Modifier.PRIVATE | Modifier.STATIC);
            sizesAreKept(one);
        }
        sizesAreKept(DrumMachine.class);
        namesOfTheFaceAreItsOwn();
        noCallThrows();
        Check.finish();
    }

    private static int count(String source, String pattern) {
        Matcher matcher = Pattern.compile(pattern).matcher(source);
        int n = 0;
        while (matcher.find()) {
            n++;
        }
        return n;
    }

    /** At most seven parameters to a method, and some twenty fields beside the constants. */
    private static void sizesAreKept(Class<?> one) {
        for (Method method : one.getDeclaredMethods()) {
            Check.due("at most seven parameters: " + method, method.getParameterCount() <= 7 ? 1 : 0, 1);
        }
        int fields = 0;
        for (Field field : one.getDeclaredFields()) {
            fields += Modifier.isStatic(field.getModifiers()) ? 0 : 1;
        }
        Check.due("at most twenty fields: " + one.getName(), fields <= 20 ? 1 : 0, 1);
    }

    /** No private method bears the name of a public one. */
    private static void namesOfTheFaceAreItsOwn() {
        Set<String> face = new TreeSet<>();
        for (Method method : DrumMachine.class.getMethods()) {
            face.add(method.getName());
        }
        for (Method method : DrumMachine.class.getDeclaredMethods()) {
            if (Modifier.isPrivate(method.getModifiers())) {
                Check.due("a name of its own: " + method, face.contains(method.getName()) ? 1 : 0, 0);
            }
        }
        for (Class<?> one : DrumMachine.class.getDeclaredClasses()) {
            for (Method method : one.getDeclaredMethods()) {
                Check.due("a name of its own: " + method, face.contains(method.getName()) ? 1 : 0, 0);
            }
        }
    }

    private static void noCallThrows() {
        for (long seed = 1; seed <= 300; seed++) {
            Random draw = new Random(seed);
            DrumMachine x = new DrumMachine();
            for (int i = 0; i < 512; i++) {
                call(x, draw);
            }
            Check.due("jobs that have not ended, seed " + seed, x.run(-1), -1);
        }
    }

    private static int any(Random draw) {
        int[] edges = {Integer.MIN_VALUE, -2, -1, 0, 1, 2, 3, 7, 12, 17, 32, 63, 64, 127, 128, 400, 1023, 1024,
            Integer.MAX_VALUE};
        int kind = draw.nextInt(4);
        return kind == 0 ? draw.nextInt() : kind == 1 ? draw.nextInt(30) : edges[draw.nextInt(edges.length)];
    }

    private static long anyWord(Random draw) {
        return draw.nextInt(3) == 0 ? draw.nextLong()
                : Check.order(draw.nextInt(70), draw.nextInt(128), draw.nextInt(128), any(draw));
    }

    private static void call(DrumMachine x, Random draw) {
        switch (draw.nextInt(18)) {
            case 0 -> x.frames(any(draw));
            case 1, 2, 3 -> x.words(anyWord(draw), anyWord(draw), anyWord(draw), anyWord(draw), anyWord(draw));
            case 4 -> x.bytes(draw.nextLong(), draw.nextLong(), draw.nextLong(), draw.nextLong(), any(draw));
            case 5 -> x.job(any(draw), any(draw));
            case 6 -> x.run(any(draw));
            case 7 -> x.ended(any(draw));
            case 8 -> x.done(any(draw));
            case 9 -> x.printed(any(draw));
            case 10 -> x.out(any(draw), any(draw));
            case 11 -> x.register(any(draw), any(draw));
            case 12 -> x.word(any(draw), any(draw));
            case 13 -> x.clock();
            case 14 -> x.told(any(draw));
            case 15 -> x.frame(any(draw), any(draw));
            case 16 -> x.sector(any(draw));
            default -> x.digest();
        }
    }
}
