import java.util.Arrays;

/** Puts CODE together for the tests, with what leaves something of a certain KIND on the STACK. */
final class Coder {
    /** INT, ARRAY, NULL, ANY, REF 0 to 4, NO. */
    static final String KINDS = "IANY01234X";

    private int[] code = {};

    Coder add(int... bytes) {
        code = Filer.join(code, bytes);
        return this;
    }

    int place() {
        return code.length;
    }

    int[] code() {
        return code;
    }

    /** What kind() answers for a KIND. */
    static int number(char kind) {
        switch (kind) {
            case 'I': return 1;
            case 'A': return 2;
            case 'N': return 3;
            case 'Y': return 15;
            case 'X': return 0;
            default: return 16 + kind - '0';
        }
    }

    /** Leaves one of this KIND; class 3 is apart from class 0, so both together are ANY. */
    Coder push(char kind) {
        switch (kind) {
            case 'I': return add(0, 1);
            case 'A': return add(0, 1, 41);
            case 'N': return add(2);
            case 'Y': return either("0", "3", -1);
            case 'X': return either("I", "N", -1);
            default: return add(38, kind - '0');
        }
    }

    /** By the input one of two ways, each of which leaves its KIND on the STACK or in a LOCAL (-1: on the STACK). */
    Coder either(String one, String other, int local) {
        add(52, 22, 0);
        int over = place() - 1;
        leave(one, local);
        add(21, 0);
        int behind = place() - 1;
        code[over] = place();
        leave(other, local);
        code[behind] = place();
        return this;
    }

    /** One behind the other, so many as are told. */
    Coder leave(String kinds, int local) {
        for (char kind : kinds.toCharArray()) {
            push(kind);
            if (local >= 0) {
                add(4, local);
            }
        }
        return this;
    }

    @Override
    public String toString() {
        return Arrays.toString(code);
    }
}
