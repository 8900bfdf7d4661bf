import java.util.ArrayList;
import java.util.Arrays;
import java.util.List;
import java.util.Random;

/** Makes FILES by chance, most of which verify and do a good deal. */
final class RandomFile {
    private static final class Sig {
        List<Integer> params = new ArrayList<>();
        int ret;
    }

    private final Random r;
    private int classes;
    private int[] sup;
    private List<List<Integer>> fields;
    private int[] adds;
    private List<Sig> selectors;
    private List<Sig> methods;
    private int[][] table;
    private int firstVirtual;
    private final boolean wild, shaken;

    // the CODE that is being made
    private List<Integer> code;
    private int own;
    private int[] kinds;
    private boolean[] locked;
    private boolean frozen;
    private int height, highest;
    private int budget;

    RandomFile(Random r) {
        this.r = r;
        wild = r.nextInt(10) == 0;
        shaken = r.nextInt(6) == 0;
    }

    private boolean chance(int percent) {
        return r.nextInt(100) < percent;
    }

    int[] make() {
        shapes();
        List<Integer> out = new ArrayList<>();
        out.add(classes);
        for (int c = 0; c < classes; c++) {
            out.add(sup[c] + 1);
            out.add(adds[c]);
            int all = fields.get(c).size();
            out.addAll(fields.get(c).subList(all - adds[c], all));
        }
        out.add(selectors.size());
        for (Sig s : selectors) {
            signature(out, s);
        }
        out.add(methods.size());
        for (int m = 0; m < methods.size(); m++) {
            signature(out, methods.get(m));
            body(m, 75);
            for (int b = 60; code.size() > 120; b -= 10) {
                body(m, b);
            }
            out.add(kinds.length);
            out.add(Math.min(8, highest + (chance(20) ? 1 : 0)));
            out.add(code.size());
            out.addAll(code);
        }
        for (int c = 0; c < classes; c++) {
            for (int s = 0; s < selectors.size(); s++) {
                out.add(table[c][s] + 1);
            }
        }
        return out.stream().mapToInt(i -> i).toArray();
    }

    private static void signature(List<Integer> out, Sig s) {
        out.add(s.params.size());
        out.addAll(s.params);
        out.add(s.ret);
    }

    private int type() {
        int k = r.nextInt(10);
        return classes > 0 && k >= 6 ? 16 + r.nextInt(classes) : k == 5 ? 2 : 1;
    }

    private Sig sig(int most) {
        Sig s = new Sig();
        for (int n = r.nextInt(most + 1); n > 0; n--) {
            s.params.add(type());
        }
        s.ret = chance(20) ? 0 : chance(60) ? 1 : type();
        return s;
    }

    private boolean isOrBelow(int c, int d) {
        for (int k = c; k >= 0; k = sup[k]) {
            if (k == d) {
                return true;
            }
        }
        return false;
    }

    private void shapes() {
        classes = chance(10) ? r.nextInt(9) : 1 + r.nextInt(4);
        sup = new int[classes];
        adds = new int[classes];
        fields = new ArrayList<>();
        for (int c = 0; c < classes; c++) {
            sup[c] = c > 0 && chance(70) ? r.nextInt(c) : -1;
            List<Integer> f = new ArrayList<>();
            if (sup[c] >= 0) {
                f.addAll(fields.get(sup[c]));
            }
            adds[c] = Math.min(r.nextInt(3), 8 - f.size());
            for (int i = 0; i < adds[c]; i++) {
                f.add(type());
            }
            fields.add(f);
        }
        selectors = new ArrayList<>();
        for (int n = r.nextInt(4); n > 0; n--) {
            selectors.add(sig(2));
        }
        methods = new ArrayList<>();
        Sig main = new Sig();
        for (int n = r.nextInt(5); n > 0; n--) {
            main.params.add(1);
        }
        main.ret = chance(80) ? 1 : r.nextInt(2) * type();
        methods.add(main);
        for (int n = r.nextInt(5); n > 0; n--) {
            methods.add(sig(3));
        }
        firstVirtual = methods.size();
        table = new int[classes][selectors.size()];
        for (int[] row : table) {
            Arrays.fill(row, -1);
        }
        for (int s = 0; s < selectors.size(); s++) {
            for (int c = 0; c < classes; c++) {
                if (methods.size() < 16 && chance(sup[c] < 0 ? 90 : 60)) {
                    Sig v = new Sig();
                    int first = c;
                    while (sup[first] >= 0 && chance(20)) {
                        first = sup[first];
                    }
                    v.params.add(16 + first);
                    v.params.addAll(selectors.get(s).params);
                    v.ret = selectors.get(s).ret;
                    table[c][s] = methods.size();
                    methods.add(v);
                }
            }
        }
    }

    private int resolved(int c, int s) {
        for (int k = c; k >= 0; k = sup[k]) {
            if (table[k][s] >= 0) {
                return table[k][s];
            }
        }
        return -1;
    }

    private void body(int m, int most) {
        own = m;
        code = new ArrayList<>();
        Sig s = methods.get(m);
        int params = s.params.size();
        kinds = new int[Math.min(8, params + r.nextInt(5))];
        for (int i = 0; i < params; i++) {
            kinds[i] = s.params.get(i);
        }
        locked = new boolean[kinds.length];
        frozen = false;
        height = highest = 0;
        budget = m == 0 ? most : 8 + r.nextInt(Math.max(1, most - 20));
        while (code.size() < budget && chance(95)) {
            statement(0);
        }
        if (s.ret == 0) {
            code.add(49);
        } else {
            expression(s.ret, 1);
            code.add(50);
        }
        if (shaken && code.size() < 121) {
            shake();
        }
    }

    /** Jumps go on elsewhere: ways come together that were not meant to. */
    private void shake() {
        List<Integer> begins = new ArrayList<>();
        List<Integer> jumps = new ArrayList<>();
        int p = 0;
        while (p < code.size()) {
            int op = code.get(p);
            begins.add(p);
            if (op >= 21 && op <= 37) {
                jumps.add(p + 1);
            }
            if (op == 53) {
                for (int i = 0; i <= code.get(p + 1); i++) {
                    jumps.add(p + 2 + i);
                }
            }
            boolean three = op == 1 || op == 20 || op == 39 || op == 40;
            boolean two = op == 0 || op == 3 || op == 4 || op >= 21 && op <= 38 || op >= 45 && op <= 48;
            p += op == 53 ? 3 + code.get(p + 1) : three ? 3 : two ? 2 : 1;
        }
        for (int k = 1 + r.nextInt(2); k > 0 && !jumps.isEmpty(); k--) {
            code.set(jumps.get(r.nextInt(jumps.size())), begins.get(r.nextInt(begins.size())));
        }
    }

    private void put(int... bytes) {
        for (int b : bytes) {
            code.add(b & 255);
        }
    }

    private void grow(int n) {
        height += n;
        highest = Math.max(highest, height);
    }

    private int localOf(int type) {
        int from = kinds.length == 0 ? 0 : r.nextInt(kinds.length);
        for (int k = 0; k < kinds.length; k++) {
            int i = (from + k) % kinds.length;
            if (fits(kinds[i], type)) {
                return i;
            }
        }
        return -1;
    }

    private boolean fits(int kind, int type) {
        return kind == type && kind != 0 || kind >= 16 && type >= 16 && isOrBelow(kind - 16, type - 16);
    }

    /** Puts something FIT as the TYPE; its KIND. */
    private int expression(int type, int d) {
        boolean leaf = d > 3 || height > 4 || code.size() > budget;
        int l = localOf(type);
        if (l >= 0 && chance(leaf ? 80 : 40)) {
            put(3, l);
            grow(1);
            return kinds[l];
        }
        if (!leaf && chance(35) && call(type, d)) {
            return type;
        }
        if (!leaf && chance(type == 1 ? 25 : 6) && field(type, d)) {
            return type;
        }
        if (!leaf && type >= 16 && chance(5)) {
            object(d);
            put(46, type - 16);
            return type;
        }
        if (type == 1) {
            integer(d, leaf);
            return 1;
        }
        if (chance(4)) {
            put(2);
            grow(1);
            if (type >= 16 && chance(60)) {
                put(46, type - 16);
                return type;
            }
            return 3;
        }
        if (type == 2) {
            put(0, chance(3) ? r.nextInt(256) : 2 + r.nextInt(5), 41);
            grow(1);
            return 2;
        }
        int c = lower(type - 16);
        put(38, c);
        grow(1);
        return 16 + c;
    }

    private int lower(int c) {
        int low = c;
        for (int k = 0; k < 4; k++) {
            int other = r.nextInt(classes);
            if (isOrBelow(other, low)) {
                low = other;
            }
        }
        return low;
    }

    private void integer(int d, boolean leaf) {
        int k = leaf ? r.nextInt(3) : r.nextInt(12);
        if (k == 0) {
            put(0, chance(70) ? r.nextInt(9) - 2 : r.nextInt(256));
            grow(1);
        } else if (k == 1) {
            put(1, r.nextInt(256), r.nextInt(256));
            grow(1);
        } else if (k == 2) {
            put(52);
            grow(1);
        } else if (k <= 6) {
            expression(1, d + 1);
            expression(1, d + 1);
            int op = 8 + r.nextInt(11);
            put((op == 11 || op == 12) && chance(70) ? 9 : op);
            grow(-1);
        } else if (k == 7) {
            expression(1, d + 1);
            put(19);
        } else if (k == 8) {
            expression(2, d + 1);
            put(44);
        } else if (k == 9) {
            expression(2, d + 1);
            if (chance(70)) {
                put(0, r.nextInt(2));
                grow(1);
            } else {
                expression(1, d + 1);
            }
            put(42);
            grow(-1);
        } else if (classes > 0) {
            object(d);
            put(45, r.nextInt(classes));
        } else {
            put(0, 1);
            grow(1);
        }
    }

    /** Puts something that is a NULL, ANY or REF. */
    private void object(int d) {
        for (int i = 0; i < kinds.length; i++) {
            if ((kinds[i] == 15 || kinds[i] == 3 || kinds[i] >= 16) && chance(40)) {
                put(3, i);
                grow(1);
                return;
            }
        }
        expression(16 + r.nextInt(classes), d + 1);
    }

    private boolean field(int type, int d) {
        if (classes == 0) {
            return false;
        }
        int c = r.nextInt(classes);
        for (int f = 0; f < fields.get(c).size(); f++) {
            if (fits(fields.get(c).get(f), type) && fields.get(c).get(f) == type) {
                expression(16 + c, d + 1);
                put(39, c, f);
                return true;
            }
        }
        return false;
    }

    private boolean call(int type, int d) {
        for (int tries = 0; tries < 4; tries++) {
            if (chance(50) && classes > 0 && selectors.size() > 0) {
                int s = r.nextInt(selectors.size());
                int c = r.nextInt(classes);
                if (selectors.get(s).ret == type && resolved(c, s) >= 0 && (own < firstVirtual || chance(6))) {
                    expression16(c, d);
                    arguments(selectors.get(s).params, d);
                    put(48, s);
                    grow(-1 - selectors.get(s).params.size() + (type == 0 ? 0 : 1));
                    return true;
                }
            } else {
                int m = r.nextInt(methods.size());
                if (methods.get(m).ret == type && (m > own || chance(4))) {
                    arguments(methods.get(m).params, d);
                    put(47, m);
                    grow(-methods.get(m).params.size() + (type == 0 ? 0 : 1));
                    return true;
                }
            }
        }
        return false;
    }

    /** A REF of the class or of one BELOW it, never of KIND NULL. */
    private void expression16(int c, int d) {
        if (expression(16 + c, d + 1) == 3) {
            put(46, c);
        }
    }

    private void arguments(List<Integer> types, int d) {
        for (int type : types) {
            expression(type, d + 1);
        }
    }

    private void statement(int d) {
        int k = r.nextInt(20);
        if (k < 4) {
            setLocal(d);
        } else if (k < 6) {
            expression(1, d);
            put(51);
            grow(-1);
        } else if (k == 6) {
            addLocal();
        } else if (k < 9) {
            setField(d);
        } else if (k == 9) {
            setInt(d);
        } else if (k < 12) {
            callStatement(d);
        } else if (k < 15 && d < 3) {
            branch(d);
        } else if (k < 18 && d < 2) {
            loop(d);
        } else if (k == 18 && d < 2) {
            choose(d);
        } else if (k == 19) {
            shuffle(d);
        }
    }

    private void setLocal(int d) {
        if (kinds.length == 0) {
            return;
        }
        int l = r.nextInt(kinds.length);
        if (locked[l] || frozen && (kinds[l] == 0 || kinds[l] == 15 || kinds[l] == 3)) {
            return;
        }
        int type = frozen || kinds[l] == 1 && chance(70) ? kinds[l] == 0 ? 1 : kinds[l] : type();
        if (frozen && type >= 16) {
            put(38, lower(type - 16));
            grow(1);
        } else if (frozen && type == 2) {
            put(0, 3, 41);
            grow(1);
        } else if (type == 3 || type == 15) {
            return;
        } else {
            type = expression(type, d);
        }
        put(4, l);
        grow(-1);
        kinds[l] = type;
    }

    private void addLocal() {
        int l = localOf(1);
        if (l >= 0 && !locked[l]) {
            put(20, l, r.nextInt(256));
        }
    }

    private void setField(int d) {
        if (classes == 0) {
            return;
        }
        int c = r.nextInt(classes);
        if (fields.get(c).isEmpty()) {
            return;
        }
        int f = r.nextInt(fields.get(c).size());
        int l = localOf(16 + c);
        if (l >= 0) {
            put(3, l);
            grow(1);
        } else {
            expression(16 + c, d);
        }
        expression(fields.get(c).get(f), d + 1);
        put(40, c, f);
        grow(-2);
    }

    private void setInt(int d) {
        expression(2, d);
        put(0, r.nextInt(2));
        grow(1);
        expression(1, d + 1);
        put(43);
        grow(-3);
    }

    private void callStatement(int d) {
        int type = chance(50) ? 0 : type();
        if (call(type, d) && type != 0) {
            put(5);
            grow(-1);
        }
    }

    private void condition(int d) {
        int k = r.nextInt(4);
        if (k == 0 || classes == 0) {
            expression(1, d);
            put(22 + r.nextInt(6));
            grow(-1);
        } else if (k == 1) {
            expression(1, d);
            expression(1, d);
            put(28 + r.nextInt(6));
            grow(-2);
        } else if (k == 2) {
            object(d);
            put(34 + r.nextInt(2));
            grow(-1);
        } else {
            object(d);
            object(d);
            put(36 + r.nextInt(2));
            grow(-2);
        }
    }

    private void block(int d) {
        for (int n = 1 + r.nextInt(2); n > 0; n--) {
            if (code.size() < budget) {
                statement(d + 1);
            }
        }
    }

    private void branch(int d) {
        condition(d);
        int hole = code.size();
        put(0);
        int[] before = kinds.clone();
        block(d);
        int[] one = kinds;
        kinds = before.clone();
        if (chance(50)) {
            put(21, 0);
            code.set(hole, code.size());
            int end = code.size() - 1;
            block(d);
            code.set(end, code.size());
        } else {
            code.set(hole, code.size());
        }
        join(one);
    }

    private void join(int[] other) {
        for (int i = 0; i < kinds.length; i++) {
            kinds[i] = join(kinds[i], other[i]);
        }
    }

    private int join(int a, int b) {
        if (a == b) {
            return a;
        }
        if (a == 3 || b == 3) {
            int o = Math.max(a == 3 ? 0 : a, b == 3 ? 0 : b);
            return o == 1 ? 0 : o;
        }
        if (a < 15 || b < 15) {
            return 0;
        }
        if (a > 15 && b > 15) {
            for (int k = a - 16; k >= 0; k = sup[k]) {
                if (isOrBelow(b - 16, k)) {
                    return 16 + k;
                }
            }
        }
        return 15;
    }

    private void loop(int d) {
        if (kinds.length == 0) {
            return;
        }
        int l = r.nextInt(kinds.length);
        if (locked[l] || frozen && kinds[l] != 1) {
            return;
        }
        put(0, 1 + r.nextInt(own == 0 && d == 0 ? 12 : 4), 4, l);
        highest = Math.max(highest, height + 1);
        kinds[l] = 1;
        locked[l] = true;
        boolean was = frozen;
        frozen = !wild;
        int head = code.size();
        for (int n = 1 + r.nextInt(3); n > 0; n--) {
            statement(d + 1);
        }
        put(20, l, -1, 3, l, 26, head);
        highest = Math.max(highest, height + 1);
        frozen = was;
        locked[l] = false;
    }

    private void choose(int d) {
        int n = 1 + r.nextInt(3);
        expression(1, d);
        put(53, n);
        grow(-1);
        int hole = code.size();
        for (int i = 0; i <= n; i++) {
            put(0);
        }
        int[] before = kinds.clone();
        int[] all = null;
        List<Integer> ends = new ArrayList<>();
        for (int i = 0; i <= n; i++) {
            code.set(hole + i, code.size());
            kinds = before.clone();
            block(d);
            if (i < n) {
                put(21, 0);
                ends.add(code.size() - 1);
            }
            if (all != null) {
                join(all);
            }
            all = kinds;
        }
        for (int e : ends) {
            code.set(e, code.size());
        }
    }

    private void shuffle(int d) {
        int a = type();
        expression(a, d);
        if (chance(50)) {
            put(6);
            grow(1);
        } else {
            expression(type(), d);
        }
        put(7, 5, 5);
        grow(-2);
    }
}
