import java.util.ArrayList;
import java.util.List;

/** Puts a FILE together for the tests. */
final class Filer {
    private final List<int[]> classes = new ArrayList<>();
    private final List<int[]> selectors = new ArrayList<>();
    private final List<int[]> methods = new ArrayList<>();
    private final List<int[]> table = new ArrayList<>();

    static int[] types(int... types) {
        return types;
    }

    /** A class below another one (-1: none), with the FIELDS that it adds. */
    Filer cls(int sup, int... fields) {
        classes.add(join(new int[] {sup + 1, fields.length}, fields));
        return this;
    }

    Filer sel(int returns, int... params) {
        selectors.add(join(join(new int[] {params.length}, params), new int[] {returns}));
        return this;
    }

    Filer method(int returns, int[] params, int locals, int stack, int... code) {
        int[] head = join(join(new int[] {params.length}, params), new int[] {returns, locals, stack, code.length});
        methods.add(join(head, code));
        return this;
    }

    /** A class's row of THE TABLE: METHODS, -1 for none of its own. */
    Filer row(int... ofSelectors) {
        int[] row = new int[ofSelectors.length];
        for (int i = 0; i < row.length; i++) {
            row[i] = ofSelectors[i] + 1;
        }
        table.add(row);
        return this;
    }

    int[] bytes() {
        int[] all = {classes.size()};
        for (int[] c : classes) {
            all = join(all, c);
        }
        all = join(all, new int[] {selectors.size()});
        for (int[] s : selectors) {
            all = join(all, s);
        }
        all = join(all, new int[] {methods.size()});
        for (int[] m : methods) {
            all = join(all, m);
        }
        for (int[] t : table) {
            all = join(all, t);
        }
        return all;
    }

    TierMill loaded() {
        TierMill mill = new TierMill();
        loadInto(mill);
        return mill;
    }

    int loadInto(TierMill mill) {
        putAll(mill, bytes());
        return mill.load();
    }

    /** By words of 8 bytes, since an object is used for at most 512 calls. */
    static void putAll(TierMill mill, int... bytes) {
        for (int from = 0; from < bytes.length; from += 8) {
            int n = Math.min(8, bytes.length - from);
            long word = 0;
            for (int i = 0; i < n; i++) {
                word = word << 8 | bytes[from + i] & 255;
            }
            if (!mill.put(word, n)) {
                throw new IllegalStateException("put refused bytes");
            }
        }
    }

    static int[] join(int[] a, int[] b) {
        int[] both = java.util.Arrays.copyOf(a, a.length + b.length);
        System.arraycopy(b, 0, both, a.length, b.length);
        return both;
    }
}
