import java.lang.reflect.Constructor;
import java.lang.reflect.Field;
import java.lang.reflect.Method;
import java.lang.reflect.Modifier;
import java.util.Arrays;
import java.util.Set;
import java.util.TreeSet;

/** The public face, and a new object: promise 1. */
final class FaceTest {
    private static final Set<String> FACE = new TreeSet<>(Arrays.asList(
            "int frames(int)", "int words(long,long,long,long,long)", "int bytes(long,long,long,long,int)",
            "int job(int,int)", "int run(int)", "int ended(int)", "int done(int)", "int printed(int)",
            "int out(int,int)", "long register(int,int)", "long word(int,int)", "int clock()", "int told(int)",
            "int frame(int,int)", "int sector(int)", "long digest()"));

    public static void main(String[] args) {
        faceIsTheDocuments();
        newObject();
        exampleOfTheReadme();
        Check.finish();
    }

    private static void faceIsTheDocuments() {
        Set<String> open = new TreeSet<>();
        for (Method method : DrumMachine.class.getDeclaredMethods()) {
            if (!Modifier.isPrivate(method.getModifiers()) && !method.isSynthetic()) {
                open.add(method.getReturnType() + " " + method.getName() + parameters(method));
            }
        }
        Check.dueText("methods that are not private", open.toString(), FACE.toString());
        int fields = 0;
        for (Field field : DrumMachine.class.getDeclaredFields()) {
            fields += Modifier.isPrivate(field.getModifiers()) ? 0 : 1;
        }
        Check.due("fields that are not private", fields, 0);
        Constructor<?>[] made = DrumMachine.class.getDeclaredConstructors();
        Check.due("constructors", made.length, 1);
        Check.due("parameters of the constructor", made[0].getParameterCount(), 0);
        Check.due("the class is public and final",
                DrumMachine.class.getModifiers() & (Modifier.PUBLIC | Modifier.FINAL), Modifier.PUBLIC | Modifier.FINAL);
    }

    private static String parameters(Method method) {
        StringBuilder text = new StringBuilder("(");
        for (Class<?> type : method.getParameterTypes()) {
            text.append(text.length() > 1 ? "," : "").append(type);
        }
        return text.append(")").toString();
    }

    private static void newObject() {
        DrumMachine x = new DrumMachine();
        Check.due("new: clock()", x.clock(), 0);
        for (int what = -1; what <= 9; what++) {
            Check.due("new: told(" + what + ")", x.told(what), what == 7 ? -1 : 0);
        }
        for (int f = -1; f <= 18; f++) {
            boolean there = f >= 0 && f < 7;
            for (int what = -1; what <= 5; what++) {
                boolean zero = there && what >= 2 && what <= 4;
                Check.due("new: frame(" + f + ", " + what + ")", x.frame(f, what), zero ? 0 : -1);
            }
        }
        for (int d = -1; d <= 64; d++) {
            Check.due("new: sector(" + d + ")", x.sector(d), -1);
        }
        for (int j = -1; j <= 12; j++) {
            Check.due("new: ended", x.ended(j), -1);
            Check.due("new: done", x.done(j), -1);
            Check.due("new: printed", x.printed(j), -1);
            Check.due("new: out", x.out(j, 0), -1);
            Check.due("new: register", x.register(j, 128), 0);
            Check.due("new: word", x.word(j, 0), 0);
        }
        Check.due("new: run(20000)", x.run(20000), 0);
        Check.due("new: clock() behind run", x.clock(), 0);
        Check.due("new: job(1, 1) of an empty tray", x.job(1, 1), -1);
        Check.due("new: bytes of none", x.bytes(-1, -1, -1, -1, 0), 0);
    }

    /** The calls that README.md shows. */
    private static void exampleOfTheReadme() {
        DrumMachine machine = new DrumMachine();
        Check.due("example: frames", machine.frames(5), 5);
        long load = 23L << 38 | 42;
        long print = 66L << 38;
        long end = 34L << 38;
        Check.due("example: words", machine.words(load, print, end, 0, 0), 5);
        int job = machine.job(100, 3);
        Check.due("example: job", job, 0);
        Check.due("example: run", machine.run(20000), 0);
        Check.due("example: ended", machine.ended(job), 1);
        Check.due("example: done", machine.done(job), 3);
        Check.due("example: printed", machine.printed(job), 3);
        Check.due("example: out 0", machine.out(job, 0), '4');
        Check.due("example: out 1", machine.out(job, 1), '2');
        Check.due("example: out 2", machine.out(job, 2), 10);
    }
}
