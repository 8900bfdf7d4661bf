import java.util.NoSuchElementException;

/** Counts and prints the answers that are not as due. */
final class Check {
    interface Call {
        int answer();
    }

    static final int ARGUMENT = -1000001;
    static final int STATE = -1000002;
    static final int ARITHMETIC = -1000003;
    static final int NO_ELEMENT = -1000004;

    private int wrong;
    private int all;

    void due(String what, int want, int got) {
        all++;
        if (got != want) {
            wrong++;
            System.out.println(what + " answered " + got + ", due is " + want);
        }
    }

    void due(String what, boolean want, boolean got) {
        due(what, want ? 1 : 0, got ? 1 : 0);
    }

    /** For calls that may throw: an exception of the document counts as one of the numbers above. */
    void due(String what, int want, Call call) {
        int got;
        try {
            got = call.answer();
        } catch (IllegalArgumentException e) {
            got = e.getClass() == IllegalArgumentException.class ? ARGUMENT : -1;
        } catch (IllegalStateException e) {
            got = e.getClass() == IllegalStateException.class ? STATE : -1;
        } catch (ArithmeticException e) {
            got = ARITHMETIC;
        } catch (NoSuchElementException e) {
            got = e.getClass() == NoSuchElementException.class ? NO_ELEMENT : -1;
        }
        due(what, want, got);
    }

    void end() {
        System.out.println(wrong == 0 ? all + " answers are as due" : wrong + " of " + all + " answers are not as due");
        if (wrong != 0) {
            System.exit(1);
        }
    }
}
