import java.io.IOException;
import java.lang.reflect.Constructor;
import java.lang.reflect.Field;
import java.lang.reflect.Method;
import java.lang.reflect.Modifier;
import java.nio.file.Files;
import java.nio.file.Path;
import java.util.ArrayList;
import java.util.Arrays;
import java.util.List;
import java.util.Set;
import java.util.TreeSet;
import java.util.regex.Matcher;
import java.util.regex.Pattern;

/** The public face as the document has it, and what of LANGUAGE.md can be seen in the class and in its source. */
public final class FaceTest {
    private static final Checks CHECKS = new Checks("FaceTest");
    private static final String FACE = """
        int customer(int,int,int)
        int of(int,int)
        int set(int,int,int)
        int row(int,int,int)
        int feed(int)
        int counter()
        int knife(int)
        int told(int)
        int visit(int)
        int saturday()
        int on(int,int,int)
        int asked(int,int)
        int dare(int,int)
        int learnt(int,int)
        int nobody()
        int lost(int)
        int over(int,int,int)
        int nearest(int)
        int see(int)
        int who()
        int offs(int,int)
        long odds(int,int)
        long mean(int,int)
        int book(int)
        int looked()
        int judge(int,int)
        int image()
        int undo()
        int act(int,int,int)
        int trace(int)
        int taken(int,int)
        int count(int)
        int tape(int,int,int)
        int item(int,int,long)
        long read(int,int)
        int shift(int,int,int,int,int)
        """;

    private static String signature(Method m) {
        List<String> types = new ArrayList<>();
        for (Class<?> type : m.getParameterTypes()) {
            types.add(type.getName());
        }
        return m.getReturnType().getName() + " " + m.getName() + "(" + String.join(",", types) + ")";
    }

    private static void face() {
        Class<?> main = LittleMore.class;
        CHECKS.due("public final", main.getModifiers(), Modifier.PUBLIC | Modifier.FINAL);
        Constructor<?>[] constructors = main.getDeclaredConstructors();
        CHECKS.due("constructors", constructors.length, 1);
        CHECKS.holds("a public constructor without arguments",
            Modifier.isPublic(constructors[0].getModifiers()) && constructors[0].getParameterCount() == 0);
        Set<String> due = new TreeSet<>(Arrays.asList(FACE.strip().split("\n")));
        Set<String> found = new TreeSet<>();
        Set<String> names = new TreeSet<>();
        for (Method m : main.getDeclaredMethods()) {
            if (!Modifier.isPrivate(m.getModifiers())) {
                CHECKS.due(m.getName() + " is public and no more", m.getModifiers(), Modifier.PUBLIC);
                found.add(signature(m));
                names.add(m.getName());
            }
        }
        CHECKS.holds("the methods " + due + " are " + found, due.equals(found));
        lookAtMembers(main, names);
        for (Class<?> inner : main.getDeclaredClasses()) {
            CHECKS.holds(inner + " is static", Modifier.isStatic(inner.getModifiers()));
            CHECKS.holds(inner + " is not public", !Modifier.isPublic(inner.getModifiers()));
            lookAtMembers(inner, names);
        }
        CHECKS.holds("some twelve classes", main.getDeclaredClasses().length <= 11);
    }

    private static void lookAtMembers(Class<?> type, Set<String> publicNames) {
        int fields = 0;
        for (Field f : type.getDeclaredFields()) {
            boolean isStatic = Modifier.isStatic(f.getModifiers());
            CHECKS.holds(f + ": static fields are final", !isStatic || Modifier.isFinal(f.getModifiers()));
            fields += isStatic ? 0 : 1;
            if (type == LittleMore.class && !Modifier.isPrivate(f.getModifiers())) {
                CHECKS.holds(f + " is of the face", Set.of("NONE", "BAD", "STATE", "FULL", "NO").contains(f.getName()));
                CHECKS.due(f + " is a constant", f.getModifiers(), Modifier.PUBLIC | Modifier.STATIC | Modifier.FINAL);
            }
        }
        CHECKS.holds(type + " has some twenty fields", fields <= 20);
        for (Method m : type.getDeclaredMethods()) {
            CHECKS.holds(m + " takes seven at most", m.getParameterCount() <= 7);
            boolean own = type == LittleMore.class && Modifier.isPublic(m.getModifiers());
            CHECKS.holds(m + " has no public one's name", own || !publicNames.contains(m.getName()));
        }
    }

    private static void constants() {
        CHECKS.due("NONE", LittleMore.NONE, -1);
        CHECKS.due("BAD", LittleMore.BAD, -2);
        CHECKS.due("STATE", LittleMore.STATE, -3);
        CHECKS.due("FULL", LittleMore.FULL, -4);
        CHECKS.due("NO", LittleMore.NO, Long.MIN_VALUE);
    }

    /** The source without its comments, and with nothing in its texts and signs. */
    private static String bare(String source) {
        Matcher m = Pattern.compile("/\\*.*?\\*/|//[^\n]*|\"(\\\\.|[^\"\\\\])*\"|'(\\\\.|[^'\\\\])'", Pattern.DOTALL)
            .matcher(source);
        return m.replaceAll(found -> found.group().startsWith("/") ? "" : "\"\"");
    }

    private static void source() throws IOException {
        String source = Files.readString(Path.of("src/main/java/LittleMore.java"));
        CHECKS.holds("signs 1 to 127 alone", source.chars().allMatch(c -> c > 0 && c < 128));
        String bare = bare(source);
        String[] banned = {"\\bthrows?\\b", "\\btry\\b", "\\bcatch\\b", "\\bsynchronized\\b", "\\bassert\\b", "->", "::", "@", "Exact\\b", "\"\"\\s*\\+", "\\+\\s*\"\"", "\\bSystem\\.(?!arraycopy)", "\\bpackage\\b",
            "\\bwhile\\s*\\(true", "\\bfor\\s*\\(;;", "\\bdouble\\b", "\\bfloat\\b", "\\bRandom\\b", "\\bhashCode\\b"};
        for (String word : banned) {
            CHECKS.holds("no " + word, !Pattern.compile(word).matcher(bare).find());
        }
        library(bare);
        lengths(bare);
        Matcher imports = Pattern.compile("import ([^;]*);").matcher(bare);
        while (imports.find()) {
            CHECKS.holds("import of " + imports.group(1),
                Set.of("java.util.ArrayList", "java.util.Arrays").contains(imports.group(1)));
        }
    }

    private static void library(String bare) {
        Set<String> listed = Set.of("Math.abs", "Math.floorMod", "Math.max", "Math.min", "Integer.bitCount",
            "Arrays.copyOf", "Arrays.fill", "System.arraycopy", "Long.MIN_VALUE");
        Matcher used =
            Pattern.compile("\\b(Math|Integer|Long|Arrays|System|Character|List|Objects)\\.\\w+").matcher(bare);
        while (used.find()) {
            CHECKS.holds(used.group() + " is listed", listed.contains(used.group()));
        }
    }

    /** A method's lines: from its name's to the one on which its brace ends, as far in as it began. */
    private static void lengths(String bare) {
        String whole = "(?ms)^( {4}| {8})(?! )[\\w<>\\[\\] ]+\\([^;{]*\\) \\{$.*?^\\1\\}$";
        Matcher method = Pattern.compile(whole).matcher(bare);
        int methods = 0;
        while (method.find()) {
            long lines = method.group().lines().count();
            CHECKS.holds(method.group().lines().findFirst().get().strip() + ": " + lines + " lines", lines <= 60);
            methods++;
        }
        CHECKS.holds("methods are found: " + methods, methods > 100);
    }

    public static void main(String[] args) throws IOException {
        face();
        constants();
        source();
        CHECKS.end();
    }
}
