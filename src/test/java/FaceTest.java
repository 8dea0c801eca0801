import java.io.IOException;
import java.lang.reflect.Constructor;
import java.lang.reflect.Field;
import java.lang.reflect.Method;
import java.lang.reflect.Modifier;
import java.nio.file.Files;
import java.nio.file.Path;
import java.util.Arrays;
import java.util.List;
import java.util.TreeSet;
import java.util.regex.Matcher;
import java.util.regex.Pattern;

/** The face is the document's and no more, and the file keeps to what of LANGUAGE.md a look at its words can tell. */
public final class FaceTest {
    private static final List<String> FACE = List.of(
            "feed(long)", "end(int)", "text()", "fault()", "sort(int,int,int)", "set(int,int,int)", "of(int,int)", "rule(int)",
            "comes(int,int,int,int)", "sold(int,int,int,int)", "thought(int,int,int,int)", "rests(int,int,int)",
            "fall(int,int,int,int)", "gain(int,int,int)", "lost(int,int,int)", "best(int,int,int)", "all()",
            "part(int,int)", "sharp()", "days(int)", "keep(int,int)", "edge(int)", "spur(int)", "laws(int,int,int)",
            "bestLaws(int,int)", "learn(int,int,int)", "sheet(int,int,int)", "lay(int,int,int)", "read(int,int,int,int)",
            "torn()", "count(int)");
    private static final List<String> CONSTANTS = List.of("BAD=-1", "STATE=-2", "FULL=-3", "NONE=-4");
    private static final String[] FORBIDDEN = {
            "\\bthrow\\b", "\\btry\\b", "\\bcatch\\b", "\\bsynchronized\\b", "\\bassert\\b", "->", "::", "\\bimport\\b",
            "\\bpackage\\b", "Exact\\b", "\\bObject\\b", "\\bdouble\\b", "\\bfloat\\b"};

    private static int wrong = 0;

    public static void main(String[] args) throws Exception {
        checkFace();
        checkNested();
        checkWords();
        checkRoom();
        System.out.println("FaceTest: " + wrong + " wrong");
        if (wrong != 0) System.exit(1);
    }

    private static void check(boolean holds, String what) {
        if (!holds) {
            wrong++;
            System.out.println("FaceTest: " + what);
        }
    }

    private static String signature(Method m) {
        StringBuilder b = new StringBuilder(m.getName()).append('(');
        for (Class<?> c : m.getParameterTypes()) b.append(b.charAt(b.length() - 1) == '(' ? "" : ",").append(c.getName());
        return b.append(')').toString();
    }

    private static void checkFace() throws IllegalAccessException {
        check(Modifier.isFinal(LemonMarket.class.getModifiers()), "the class is final");
        TreeSet<String> methods = new TreeSet<>();
        for (Method m : LemonMarket.class.getDeclaredMethods()) {
            if (Modifier.isPrivate(m.getModifiers())) continue;
            methods.add(signature(m));
            check(m.getReturnType() == int.class && m.getModifiers() == Modifier.PUBLIC, m + " is a public int method");
        }
        check(methods.equals(new TreeSet<>(FACE)), "methods that can be seen: " + methods);
        TreeSet<String> constants = new TreeSet<>();
        for (Field f : LemonMarket.class.getDeclaredFields()) {
            if (Modifier.isPrivate(f.getModifiers())) continue;
            constants.add(f.getName() + "=" + f.getInt(null));
            check(Modifier.isPublic(f.getModifiers()) && Modifier.isFinal(f.getModifiers()), f + " is public and final");
        }
        check(constants.equals(new TreeSet<>(CONSTANTS)), "constants that can be seen: " + constants);
        Constructor<?>[] made = LemonMarket.class.getDeclaredConstructors();
        check(made.length == 1 && Modifier.isPublic(made[0].getModifiers()) && made[0].getParameterCount() == 0, "one constructor");
    }

    private static void checkNested() {
        Class<?>[] nested = LemonMarket.class.getDeclaredClasses();
        check(nested.length < 12, "at most some twelve classes");
        TreeSet<String> names = new TreeSet<>();
        for (String s : FACE) names.add(s.substring(0, s.indexOf('(')));
        for (Class<?> c : nested) {
            check(Modifier.isStatic(c.getModifiers()), c + " is static");
            for (Method m : c.getDeclaredMethods()) check(!names.contains(m.getName()), m + " bears no public name");
        }
        for (Method m : LemonMarket.class.getDeclaredMethods()) {
            check(!Modifier.isPrivate(m.getModifiers()) || !names.contains(m.getName()), m + " bears no public name");
            check(m.getParameterCount() <= 7, m + " takes seven at most");
        }
    }

    private static void checkWords() throws IOException {
        String source = Files.readString(Path.of("src/main/java/LemonMarket.java"));
        String code = source.replaceAll("(?s)/\\*.*?\\*/", "").replaceAll("//.*", "");
        for (String word : FORBIDDEN) {
            Matcher m = Pattern.compile(word).matcher(code);
            check(!m.find(), "the file has " + word);
        }
        check(source.chars().allMatch(c -> c == '\n' || c >= 32 && c < 127), "the file has plain signs alone");
    }

    /** Calls make no objects: what a run keeps is what its constructors made. */
    private static void checkRoom() {
        LemonMarket x = new LemonMarket();
        com.sun.management.ThreadMXBean room = (com.sun.management.ThreadMXBean) java.lang.management.ManagementFactory.getThreadMXBean();
        long[] taken = new long[3];
        for (int time = 0; time < taken.length; time++) {
            long before = room.getThreadAllocatedBytes(Thread.currentThread().getId());
            useAll(x);
            taken[time] = room.getThreadAllocatedBytes(Thread.currentThread().getId()) - before;
        }
        check(Arrays.stream(taken).min().getAsLong() < 2000, "calls take no room: " + Arrays.toString(taken));
    }

    private static void useAll(LemonMarket x) {
        x.feed(0x736f727420392039L);
        x.feed(0x2039393b20202020L);
        x.text();
        x.sort(5, 20, 60);
        x.set(0, 3, 5);
        for (int kind = 0; kind <= 4; kind++) {
            x.comes(kind, 5, 50, 0);
            x.thought(kind, 5, 50, 0);
            x.rests(kind, 5, 0);
            x.fall(kind, 5, 99, 0);
            x.best(kind, 5, 0);
        }
        x.part(5, 0);
        x.sharp();
        x.days(0);
        x.edge(0);
        x.spur(0);
        x.bestLaws(9, 0);
        x.learn(50, 50, 0);
        x.sheet(0, 0, 40);
        x.lay(0, 0, 1);
        x.read(0, 0, 0, 1);
        x.count(1);
    }
}
