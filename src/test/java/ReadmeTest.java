import java.io.IOException;
import java.lang.reflect.InvocationTargetException;
import java.lang.reflect.Method;
import java.lang.reflect.Modifier;
import java.nio.file.Files;
import java.nio.file.Path;
import java.util.ArrayList;
import java.util.List;
import java.util.Set;
import java.util.TreeSet;
import java.util.regex.Matcher;
import java.util.regex.Pattern;
import java.util.stream.Stream;

/** README.md: the calls that it shows give the answers that stand there, and what it names is there. */
final class ReadmeTest {
    private static final Path README = Path.of("README.md");
    private static final Path TESTS = Path.of("src/test/java");
    private static final Pattern MADE = Pattern.compile("TierMill mill = new TierMill\\(\\);( *//.*)?");
    /** A call, behind it its answer, perhaps with words behind a colon. */
    private static final Pattern CALL = Pattern.compile("mill\\.(\\w+)\\(([^()]*)\\); *// ([^:]+)(:.*)?");
    private static final Check check = new Check();

    /** What is not as due in lines of Java that a reader is shown. */
    private static final class Shown {
        final List<String> wrong = new ArrayList<>();
        final Set<String> called = new TreeSet<>();
        int calls;
        private TierMill mill;

        Shown go(List<String> lines) {
            for (String line : lines) {
                String bare = line.trim();
                Matcher call = CALL.matcher(bare);
                if (MADE.matcher(bare).matches()) {
                    mill = new TierMill();
                } else if (call.matches() && mill != null) {
                    compare(bare, call.group(1), call.group(2), call.group(3).trim());
                } else if (!bare.isEmpty() && !bare.startsWith("//")) {
                    wrong.add("neither a call with its answer nor a comment: " + bare);
                }
            }
            return this;
        }

        private void compare(String line, String name, String arguments, String want) {
            calls++;
            called.add(name);
            String got = answer(name, arguments.isBlank() ? new String[0] : arguments.split(","));
            if (!got.equals(want)) {
                wrong.add(line + " answered " + got);
            }
        }

        private String answer(String name, String[] arguments) {
            for (Method m : TierMill.class.getMethods()) {
                if (m.getName().equals(name) && m.getParameterCount() == arguments.length) {
                    try {
                        return String.valueOf(m.invoke(mill, values(m.getParameterTypes(), arguments)));
                    } catch (InvocationTargetException e) {
                        return "throws " + e.getCause().getClass().getSimpleName();
                    } catch (ReflectiveOperationException | NumberFormatException e) {
                        return "nothing, it can't be called so: " + e.getMessage();
                    }
                }
            }
            return "nothing, there is no such method";
        }

        private static Object[] values(Class<?>[] types, String[] arguments) {
            Object[] values = new Object[types.length];
            for (int i = 0; i < types.length; i++) {
                String text = arguments[i].trim().replace("_", "");
                if (types[i] == long.class) {
                    values[i] = text.endsWith("L") ? wide(text.substring(0, text.length() - 1)) : (long) narrow(text);
                } else {
                    values[i] = narrow(text);
                }
            }
            return values;
        }

        private static long wide(String text) {
            return text.startsWith("0x") ? Long.parseUnsignedLong(text.substring(2), 16) : Long.parseLong(text);
        }

        private static int narrow(String text) {
            return text.startsWith("0x") ? Integer.parseUnsignedInt(text.substring(2), 16) : Integer.parseInt(text);
        }
    }

    private static List<String> javaLines(List<String> readme) {
        List<String> lines = new ArrayList<>();
        boolean inside = false;
        for (String line : readme) {
            if (line.startsWith("```")) {
                inside = line.equals("```java");
            } else if (inside) {
                lines.add(line);
            }
        }
        return lines;
    }

    private static void shownCalls(List<String> readme) {
        Shown shown = new Shown().go(javaLines(readme));
        for (String wrong : shown.wrong) {
            check.due(wrong, true, false);
        }
        check.due("calls are shown", true, shown.calls >= 20);
        for (Method m : TierMill.class.getDeclaredMethods()) {
            if (Modifier.isPublic(m.getModifiers())) {
                check.due(m.getName() + " is shown", true, shown.called.contains(m.getName()));
            }
        }
    }

    /** This test itself sees what is wrong. */
    private static void seesWrongOnes() {
        String made = "TierMill mill = new TierMill();";
        String[] right = {
            "mill.put(0x01_02L, 2); // true", "mill.put(0, 9);   // false: too many", "mill.total(-1); // -1",
            "mill.output(0); // throws NoSuchElementException: none", "mill.state(); // 0", "// words", ""};
        String[] wrong = {
            "mill.put(0, 1); // false", "mill.total(9); // 1: wrong", "mill.output(0); // 0",
            "mill.state(); // throws X", "mill.state();", "state(); // 0", "mill.states(); // 0", "mill.room(); // false",
            "mill.room(0x100000000); // true", "mill.give(x); // true", "int x = mill.state(); // 0"};
        for (String line : right) {
            check.due("right: " + line, 0, new Shown().go(List.of(made, line)).wrong.size());
        }
        for (String line : wrong) {
            check.due("wrong: " + line, 1, new Shown().go(List.of(made, line)).wrong.size());
        }
        check.due("no object yet", 1, new Shown().go(List.of("mill.state(); // 0")).wrong.size());
    }

    /** Each file of tests is told of, and there is each that is told of; likewise the classes inside. */
    private static void namesWhatThereIs(String text) throws IOException {
        Set<String> files = new TreeSet<>();
        try (Stream<Path> all = Files.list(TESTS)) {
            all.forEach(file -> files.add(file.getFileName().toString().replace(".java", "")));
        }
        Set<String> classes = new TreeSet<>();
        for (Class<?> inner : TierMill.class.getDeclaredClasses()) {
            classes.add(inner.getSimpleName());
        }
        Set<String> told = new TreeSet<>();
        Matcher names = Pattern.compile("`([A-Z][a-z]\\w*)`").matcher(text);
        while (names.find()) {
            told.add(names.group(1));
        }
        for (String file : files) {
            check.due("README.md tells of " + file, true, told.contains(file));
        }
        for (String inner : classes) {
            check.due("README.md tells of " + inner, true, told.contains(inner));
        }
        for (String name : told) {
            boolean known = files.contains(name) || classes.contains(name) || name.equals("TierMill");
            check.due("there is " + name, true, known);
        }
        for (String path : new String[] {".ci/run", "src/main/java/TierMill.java", TESTS.toString()}) {
            check.due("README.md tells of " + path, true, text.contains(path));
            check.due("there is " + path, true, Files.exists(Path.of(path)));
        }
    }

    public static void main(String[] args) throws IOException {
        seesWrongOnes();
        shownCalls(Files.readAllLines(README));
        namesWhatThereIs(Files.readString(README));
        check.end();
    }
}
