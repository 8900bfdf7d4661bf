import java.io.IOException;
import java.lang.reflect.Constructor;
import java.lang.reflect.Field;
import java.lang.reflect.Method;
import java.lang.reflect.Modifier;
import java.nio.file.Files;
import java.nio.file.Path;
import java.util.Arrays;
import java.util.Set;
import java.util.TreeSet;

/** The public face, and those rules of LANGUAGE.md that can be looked for in the source. */
final class FaceTest {
    private static final String[] FACE = {
        "boolean put(long, int)",
        "int load() IllegalArgumentException",
        "int fault(int)",
        "int kind(int, int, int)",
        "boolean tiers(int, int, int, int)",
        "boolean room(int)",
        "boolean give(int)",
        "boolean start(int, int, int, int)",
        "int run(int) IllegalArgumentException IllegalStateException ArithmeticException",
        "int state()",
        "int result(int)",
        "int output(int) NoSuchElementException",
        "int frame(int, int)",
        "int local(int, int) NoSuchElementException",
        "int part(int, int, int) NoSuchElementException",
        "int method(int, int)",
        "int inlined(int, int, int)",
        "int profile(int, int, int)",
        "int log(int, int)",
        "int total(int)"};

    private static final String[] UNWANTED = {
        "catch", "finally", "synchronized", "assert", "Exact", "->", "::", "System.out", "Random", "Thread",
        "hashCode", "equals(", "toString", "volatile", "native", "protected", "package "};

    private static final Check check = new Check();

    private static String told(Method m) {
        StringBuilder b = new StringBuilder();
        b.append(m.getReturnType().getName()).append(' ').append(m.getName()).append('(');
        Class<?>[] params = m.getParameterTypes();
        for (int i = 0; i < params.length; i++) {
            b.append(i > 0 ? ", " : "").append(params[i].getName());
        }
        b.append(')');
        for (Class<?> e : m.getExceptionTypes()) {
            b.append(' ').append(e.getSimpleName());
        }
        return b.toString();
    }

    private static void face() throws ReflectiveOperationException {
        Class<?> c = TierMill.class;
        check.due("public final", true, c.getModifiers() == (Modifier.PUBLIC | Modifier.FINAL));
        check.due("NONE", -1, TierMill.NONE);
        Set<String> want = new TreeSet<>(Arrays.asList(FACE));
        Set<String> publicNames = new TreeSet<>();
        Set<String> got = new TreeSet<>();
        for (Method m : c.getDeclaredMethods()) {
            if (Modifier.isPublic(m.getModifiers())) {
                got.add(told(m));
                publicNames.add(m.getName());
            }
        }
        for (String s : want) {
            check.due("the face has " + s, true, got.contains(s));
        }
        check.due("how many public methods", want.size(), got.size());
        for (Method m : c.getDeclaredMethods()) {
            boolean isPublic = Modifier.isPublic(m.getModifiers());
            check.due(m + " is public or private", true, isPublic || Modifier.isPrivate(m.getModifiers()));
            check.due(m + " bears a public name", isPublic, publicNames.contains(m.getName()));
        }
        for (Field f : c.getDeclaredFields()) {
            boolean isNone = f.getName().equals("NONE") && Modifier.isPublic(f.getModifiers());
            check.due(f + " is private or NONE", true, isNone || Modifier.isPrivate(f.getModifiers()));
        }
        check.due("constructors", 1, c.getDeclaredConstructors().length);
        Constructor<?> made = c.getDeclaredConstructor();
        check.due("the constructor is public", true, Modifier.isPublic(made.getModifiers()));
        nested(c, publicNames);
    }

    private static void nested(Class<?> c, Set<String> publicNames) {
        check.due("at most some twelve classes", true, c.getDeclaredClasses().length <= 12);
        for (Class<?> inner : c.getDeclaredClasses()) {
            boolean open = Modifier.isPublic(inner.getModifiers()) || Modifier.isProtected(inner.getModifiers());
            check.due(inner + " is not open", false, open);
            check.due(inner + " is static", true, Modifier.isStatic(inner.getModifiers()));
            int fields = 0;
            for (Field f : inner.getDeclaredFields()) {
                fields += Modifier.isStatic(f.getModifiers()) ? 0 : 1;
                boolean isFinal = Modifier.isFinal(f.getModifiers());
                check.due(f + " is no static state", true, !Modifier.isStatic(f.getModifiers()) || isFinal);
            }
            check.due(inner + " has some twenty fields", true, fields <= 20);
            for (Method m : inner.getDeclaredMethods()) {
                check.due(m + " bears a public name", false, publicNames.contains(m.getName()));
                check.due(m + " takes at most seven", true, m.getParameterCount() <= 7);
            }
        }
    }

    /** Where an array's index is tested ahead of the line, not in it. */
    private static final String[] TESTED_AHEAD = {
        "numbers[i] = value;", "localKinds[at] = ofLocals;", "stackKinds[at] = ofStack;", "plans[planCount] = plan;",
        "selectors[s] = new Shape();", "methods[m] = new Shape();"};

    /** Each index is looked at before it is used (rule 7): in the line itself, or in one of those above. */
    private static void indices(String bare) {
        for (String line : bare.split("\n")) {
            String all = line.trim();
            boolean hasIndex = all.replaceAll("new \\w+\\[", "").matches(".*\\w\\[[^\\]].*");
            if (hasIndex) {
                boolean tested = all.matches(".*(>= 0 && |< 0 \\|\\| ).*") || Arrays.asList(TESTED_AHEAD).contains(all);
                check.due("an index is tested: " + all, true, tested);
            }
        }
    }

    private static void source() throws IOException {
        String source = Files.readString(Path.of("src/main/java/TierMill.java"));
        String bare = source.replaceAll("(?s)/\\*.*?\\*/", "").replaceAll("//[^\n]*", "");
        for (String word : UNWANTED) {
            check.due("the source has " + word, false, bare.contains(word));
        }
        indices(bare);
        for (String line : bare.split("\n")) {
            if (line.startsWith("import")) {
                check.due(line, true, line.equals("import java.util.NoSuchElementException;"));
            }
        }
        int from = 0;
        int number = 0;
        for (String line : source.split("\n")) {
            number++;
            if (line.matches(" {4}( {4})?(\\w.*)?\\) ?(throws .*)?\\{")) {
                from = number;
            }
            if (line.matches(" {4}( {4})?\\}") && from > 0) {
                check.due("a method of at most sixty lines ends at line " + number, true, number - from < 60);
                from = 0;
            }
        }
    }

    public static void main(String[] args) throws ReflectiveOperationException, IOException {
        face();
        source();
        check.end();
    }
}
