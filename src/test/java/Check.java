import java.io.IOException;
import java.nio.file.Files;
import java.nio.file.Path;
import java.util.LinkedHashSet;
import java.util.Map;
import java.util.NoSuchElementException;
import java.util.Set;

/** Counts and prints the answers that are not as due. */
final class Check {
    interface Call {
        int answer();
    }

    static final int ARGUMENT = -1000001;
    static final int STATE = -1000002;
    static final int ARITHMETIC = -1000003;
    static final int NO_ELEMENT = -1000004;
    /** What no call may throw. */
    static final int ANOTHER = -1000005;
    private static final int NOT_ASKED = -1000006;

    private static final Path DOCUMENT = Path.of("../shared/DOC.md");

    private final String document = readDocument();
    private String sentence = "";
    private int wrong;
    private int all;

    private static String readDocument() {
        try {
            return Files.exists(DOCUMENT) ? plain(Files.readString(DOCUMENT)) : "";
        } catch (IOException e) {
            return "";
        }
    }

    private static String plain(String text) {
        return text.replaceAll("\\s+", " ");
    }

    /**
     * What comes now tests this sentence. If the document has other words by now, that is told, but is no wrong answer:
     * the test is to be looked at again.
     */
    void says(String words) {
        sentence = words;
        if (!document.isEmpty() && !document.contains(plain(words))) {
            System.out.println("the document does not say any more: " + words);
        }
    }

    void due(String what, int want, int got) {
        all++;
        if (got != want) {
            wrong++;
            System.out.println((sentence.isEmpty() ? "" : "[" + sentence + "] ")
                + what + " answered " + got + ", due is " + want);
        }
    }

    void due(String what, boolean want, boolean got) {
        due(what, want ? 1 : 0, got ? 1 : 0);
    }

    /** For calls that may throw: an exception of the document counts as one of the numbers above. */
    void due(String what, int want, Call call) {
        due(what, want, answered(call));
    }

    static int answered(Call call) {
        try {
            return call.answer();
        } catch (RuntimeException e) {
            if (e.getClass() == IllegalArgumentException.class) {
                return ARGUMENT;
            }
            if (e.getClass() == IllegalStateException.class) {
                return STATE;
            }
            if (e.getClass() == ArithmeticException.class) {
                return ARITHMETIC;
            }
            return e.getClass() == NoSuchElementException.class ? NO_ELEMENT : ANOTHER;
        }
    }

    /** Two ways must be seen alike, but for these calls, each of which must answer something else. */
    void alike(String what, Seen.Way one, Seen.Way other, String... but) {
        Map<String, Integer> first = Seen.all(one);
        Map<String, Integer> second = Seen.all(other);
        Set<String> calls = new LinkedHashSet<>(first.keySet());
        calls.addAll(second.keySet());
        Set<String> differing = Set.of(but);
        for (String call : calls) {
            int before = first.getOrDefault(call, NOT_ASKED);
            int behind = second.getOrDefault(call, NOT_ASKED);
            if (differing.contains(call)) {
                due(what + ": " + call + " changes", true, before != behind);
            } else {
                due(what + ": " + call, before, behind);
            }
        }
    }

    void end() {
        System.out.println(wrong == 0 ? all + " answers are as due" : wrong + " of " + all + " answers are not as due");
        if (wrong != 0) {
            System.exit(1);
        }
    }
}
