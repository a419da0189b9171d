import java.io.IOException;
import java.lang.management.ManagementFactory;
import java.lang.reflect.Field;
import java.lang.reflect.Method;
import java.lang.reflect.Modifier;
import java.nio.file.Files;
import java.nio.file.Path;
import java.util.List;
import java.util.Set;
import java.util.TreeSet;
import java.util.regex.Matcher;
import java.util.regex.Pattern;

/** What can be seen of LANGUAGE.md: the face, words that are not to be there, and that calls make nothing. */
public final class LanguageTest {
    private static final Set<String> FACE = new TreeSet<>(List.of("write/1", "wipe/0", "fault/0", "lay/0", "sat/2",
        "antenna/2", "seen/3", "pass/2", "rate/2", "give/2", "why/2", "take/1", "out/3", "undo/0", "best/2", "plan/4",
        "adopt/3", "bound/1", "store/3", "over/1", "count/1"));
    private static final Set<String> CONSTANTS = new TreeSet<>(List.of("BAD", "NO", "FULL", "NONE"));
    private static final String NOT_THERE =
        "\\b(throw|throws|try|catch|finally|synchronized|assert|protected|package|hashCode|toString)\\b|->|::|\\w+Exact\\b";

    /** Of rule 4 what the class may call by a library's name; String's own methods are not looked at. */
    private static final Set<String> LIBRARY = Set.of("Arrays.fill", "Arrays.copyOf", "Arrays.copyOfRange",
        "System.arraycopy", "Math.min", "Math.max", "Math.abs", "Math.floorMod", "Math.floorDiv", "Integer.bitCount",
        "Integer.compare", "Integer.min", "Integer.max");
    private static final int MOST_LINES = 60;

    private static final Check CHECK = new Check();

    public static void main(String[] args) throws IOException {
        face();
        classesInside();
        String source = Files.readString(Path.of(args[0]));
        words(source);
        library(source);
        methodsAreShort(source);
        callsMakeNothing();
        CHECK.end();
    }

    private static void isTrue(String what, boolean answer) {
        CHECK.due(what, answer ? 1 : 0, 1);
    }

    private static void face() {
        Class<?> c = StationPasses.class;
        isTrue("public and final", Modifier.isPublic(c.getModifiers()) && Modifier.isFinal(c.getModifiers()));
        Set<String> methods = new TreeSet<>();
        for (Method m : c.getDeclaredMethods()) {
            if (!Modifier.isPrivate(m.getModifiers())) {
                methods.add(m.getName() + "/" + m.getParameterCount());
                isTrue(m.getName() + " answers an int", m.getReturnType() == int.class && Modifier.isPublic(m.getModifiers()));
            } else {
                isTrue(m.getName() + " is no name of the face", !isOfFace(m.getName()));
            }
        }
        isTrue("the methods of the document: " + methods, methods.equals(FACE));
        Set<String> fields = new TreeSet<>();
        for (Field f : c.getDeclaredFields()) {
            if (!Modifier.isPrivate(f.getModifiers())) {
                fields.add(f.getName());
            }
            isTrue(f.getName() + ": static is final", !Modifier.isStatic(f.getModifiers()) || Modifier.isFinal(f.getModifiers()));
        }
        isTrue("the constants of the document: " + fields, fields.equals(CONSTANTS));
        CHECK.due("one constructor", c.getDeclaredConstructors().length, 1);
    }

    private static boolean isOfFace(String name) {
        return FACE.stream().anyMatch(f -> f.startsWith(name + "/"));
    }

    private static void classesInside() {
        Class<?>[] inside = StationPasses.class.getDeclaredClasses();
        isTrue("twelve classes at most", inside.length < 12);
        for (Class<?> c : inside) {
            isTrue(c.getName() + " is static", Modifier.isStatic(c.getModifiers()));
            isTrue(c.getName() + " has twenty fields at most", c.getDeclaredFields().length <= 20);
            for (Method m : c.getDeclaredMethods()) {
                isTrue(c.getName() + "." + m.getName() + " is no name of the face", !isOfFace(m.getName()));
                isTrue(m.getName() + " has seven parameters at most", m.getParameterCount() <= 7);
            }
        }
    }

    private static String withoutCommentsAndTexts(String source) {
        return source.replaceAll("(?s)/\\*.*?\\*/", "").replaceAll("//[^\n]*", "").replaceAll("\"[^\"]*\"", "\"\"");
    }

    private static void words(String source) {
        String code = withoutCommentsAndTexts(source);
        Matcher m = Pattern.compile(NOT_THERE).matcher(code);
        while (m.find()) {
            isTrue("the source has " + m.group(), false);
        }
        Matcher imports = Pattern.compile("import ([^;]*);").matcher(code);
        while (imports.find()) {
            isTrue("import " + imports.group(1), Set.of("java.util.Arrays", "java.util.ArrayList", "java.util.List").contains(imports.group(1)));
        }
    }

    private static void library(String source) {
        String names = "\\b(?:Arrays|System|Math|Integer|Long|String|StringBuilder|Character|Object|List)\\.\\w+";
        Matcher calls = Pattern.compile(names).matcher(withoutCommentsAndTexts(source).replaceAll("import [^;]*;", ""));
        while (calls.find()) {
            isTrue("the source has " + calls.group(), LIBRARY.contains(calls.group()));
        }
    }

    /** A method ends with the brace that stands as deep as its head. */
    private static void methodsAreShort(String source) {
        Matcher heads = Pattern.compile("(?m)^( +)[^\n=;]*\\([^\n]*\\) \\{$").matcher(source);
        while (heads.find()) {
            int end = source.indexOf("\n" + heads.group(1) + "}", heads.end());
            isTrue("it ends: " + heads.group().trim(), end >= 0);
            long lines = source.substring(heads.start(), Math.max(end, heads.start())).lines().count();
            isTrue("sixty lines at most: " + heads.group().trim(), lines < MOST_LINES);
        }
    }

    /** All calls of a run live in one room, so that what calls make adds up: rows are made once, by the constructor. */
    private static void callsMakeNothing() {
        StationPasses x = new StationPasses();
        callAll(x);
        long before = allocated();
        for (int n = 0; n < 25; n++) {
            callAll(x);
        }
        long made = allocated() - before;
        isTrue("calls make nothing, but " + made + " bytes", made < 4096);
    }

    private static long allocated() {
        return ((com.sun.management.ThreadMXBean) ManagementFactory.getThreadMXBean())
            .getThreadAllocatedBytes(Thread.currentThread().getId());
    }

    private static void callAll(StationPasses x) {
        x.write('g');
        x.fault();
        x.wipe();
        x.sat(0, 6);
        x.antenna(0, 6);
        x.seen(0, 0, 0);
        x.pass(0, 6);
        x.rate(0, 0);
        x.give(0, 0);
        x.why(1, 0);
        x.take(0);
        x.out(0, 3, 9);
        x.best(0, -1);
        x.plan(1, 0, 6, -2);
        x.adopt(0, 3, 6);
        x.undo();
        x.bound(0);
        x.store(0, 59, 0);
        x.over(0);
        x.count(8);
        x.lay();
    }
}
