import java.util.ArrayList;
import java.util.List;
import java.util.Random;

/** Makes FILES by chance whose METHODS call one another and send to objects of many classes: much for the TIERS. */
final class TierFile {
    private final Random r;
    private final List<Integer> out = new ArrayList<>();
    private int classes, selectors, statics, methods;
    private int[] sup;

    TierFile(Random r) {
        this.r = r;
    }

    private void put(List<Integer> to, int... bytes) {
        for (int b : bytes) {
            to.add(b & 255);
        }
    }

    /** METHOD 0 loops; METHODS 1 .. statics take (REF 0, INT), the others are those of THE TABLE. */
    int[] make() {
        classes = 1 + r.nextInt(5);
        selectors = 1 + r.nextInt(3);
        statics = 1 + r.nextInt(4);
        sup = new int[classes];
        put(out, classes);
        for (int c = 0; c < classes; c++) {
            sup[c] = c == 0 ? -1 : r.nextInt(c);
            put(out, sup[c] + 1, c == 0 ? 2 : 0);
            if (c == 0) {
                put(out, 1, 16);
            }
        }
        put(out, selectors);
        for (int s = 0; s < selectors; s++) {
            put(out, 1, 1, 1);
        }
        int[][] table = new int[classes][selectors];
        methods = 1 + statics;
        for (int c = 0; c < classes; c++) {
            for (int s = 0; s < selectors; s++) {
                if (methods < 16 && (c == 0 || r.nextInt(2) == 0)) {
                    table[c][s] = ++methods;
                } else if (methods > 2 + statics && r.nextInt(4) == 0) {
                    table[c][s] = 2 + r.nextInt(statics);
                }
            }
        }
        put(out, methods);
        main0();
        for (int m = 1; m < methods; m++) {
            worker(m);
        }
        for (int[] row : table) {
            put(out, row);
        }
        return out.stream().mapToInt(i -> i).toArray();
    }

    private void main0() {
        List<Integer> code = new ArrayList<>();
        put(code, 3, 0, 4, 1);
        int head = code.size();
        put(code, 52, 53, classes);
        int hole = code.size();
        for (int c = 0; c <= classes; c++) {
            put(code, 0);
        }
        List<Integer> ends = new ArrayList<>();
        for (int c = 0; c <= classes; c++) {
            code.set(hole + c, code.size());
            put(code, 38, c == classes ? r.nextInt(classes) : c, 21, 0);
            ends.add(code.size() - 1);
        }
        for (int e : ends) {
            code.set(e, code.size());
        }
        if (r.nextInt(2) == 0) {
            put(code, 46, 0, 4, 2, 3, 2);
        } else {
            put(code, 4, 2, 3, 2);
        }
        for (int n = r.nextInt(2); n >= 0; n--) {
            put(code, 3, 2, 0, 1 + r.nextInt(5), 47, 1 + r.nextInt(statics), 51);
        }
        put(code, 5, 20, 1, -1, 3, 1, 26, head, 0, 7, 50);
        put(out, 1, 1, 1, 3, 3, code.size());
        out.addAll(code);
    }

    private void worker(int m) {
        List<Integer> code = new ArrayList<>();
        put(code, 3, 1, 26, 7, 0, m, 50);
        if (r.nextInt(4) == 0) {
            put(code, 0, r.nextInt(20), 41, 5);
        }
        if (r.nextInt(4) == 0) {
            put(code, 3, 0, 3, 0, 40, 0, 1);
        }
        int calls = r.nextInt(4);
        put(code, 0, m);
        for (int k = 0; k < calls; k++) {
            int skip = 0;
            if (r.nextInt(4) == 0) {
                put(code, 3, 1, 0, 1, 13, 22, 0);
                skip = code.size() - 1;
            }
            if (r.nextInt(8) == 0) {
                put(code, 38, r.nextInt(classes));
            } else {
                put(code, 3, 0);
            }
            put(code, 3, 1, 0, 1 + r.nextInt(2), 9);
            if (r.nextInt(2) == 0) {
                put(code, 48, r.nextInt(selectors), 8);
            } else {
                put(code, 47, 1 + r.nextInt(statics), 8);
            }
            if (skip > 0) {
                code.set(skip, code.size());
            }
        }
        if (r.nextInt(5) == 0) {
            put(code, 3, 1, 4, 2);
            int head = code.size();
            put(code, 20, 2, -1, 3, 2, 26, head);
        }
        put(code, 50);
        put(out, 2, 16, 1, 1, 3, 5, code.size());
        out.addAll(code);
    }
}
