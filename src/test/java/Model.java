import java.util.ArrayList;
import java.util.Arrays;
import java.util.HashMap;
import java.util.HashSet;
import java.util.List;
import java.util.Map;
import java.util.NoSuchElementException;
import java.util.Set;
import java.util.TreeMap;

/** The document once more, in the plainest way and slow: what TierMill is compared with. */
final class Model {
    static final int NONE = -1;

    static final class Fault extends RuntimeException {
        private static final long serialVersionUID = 1L;
        final int kind, place, method;

        Fault(int kind, int place, int method) {
            super("fault " + kind + " at " + place + " of " + method);
            this.kind = kind;
            this.place = place;
            this.method = method;
        }
    }

    static final class Trap extends RuntimeException {
        private static final long serialVersionUID = 1L;
        final int which;

        Trap(int which) {
            this.which = which;
        }
    }

    static final class Cls {
        int sup = NONE;
        List<Integer> fields = new ArrayList<>();
        int[] table;
    }

    static final class Sig {
        List<Integer> params = new ArrayList<>();
        int ret;
    }

    static final class Meth {
        Sig sig;
        int locals, stack;
        int[] code;
        TreeMap<Integer, Integer> lengths = new TreeMap<>();
        Map<Integer, Before> before = new HashMap<>();
    }

    static final class Before {
        boolean clash;
        List<Integer> locals = new ArrayList<>();
        List<Integer> stack = new ArrayList<>();

        Before copy() {
            Before b = new Before();
            b.clash = clash;
            b.locals.addAll(locals);
            b.stack.addAll(stack);
            return b;
        }

        boolean same(Before o) {
            return clash == o.clash && (clash || locals.equals(o.locals) && stack.equals(o.stack));
        }
    }

    static final class Filed {
        List<Cls> classes = new ArrayList<>();
        List<Sig> selectors = new ArrayList<>();
        List<Meth> methods = new ArrayList<>();

        boolean isOrBelow(int c, int d) {
            for (int k = c; k != NONE; k = classes.get(k).sup) {
                if (k == d) {
                    return true;
                }
            }
            return false;
        }
    }

    static final class Obj {
        int number;
        int cls;
        Object[] parts;
    }

    static final class Node {
        int deep, method, place, guard = NONE, callee;
        Map<Integer, Node> inner = new HashMap<>();
    }

    static final class Plan {
        List<Node> all = new ArrayList<>();
        Map<Integer, Node> top = new HashMap<>();
        int bytes;
    }

    static final class Frame {
        int method, place, called = NONE, tier;
        Object[] locals;
        List<Object> stack = new ArrayList<>();
        Plan plan;
        Node node;
    }

    // ---- reading

    private List<Integer> pending = new ArrayList<>();
    private int pos;
    private int faultKind, faultPlace, faultMethod;
    private Filed file;

    boolean put(long word, int n) {
        if (n < 1 || n > 8 || pending.size() + n > 1500) {
            return false;
        }
        for (int i = n; i > 0; i--) {
            pending.add((int) (word >> (i - 1) * 8) & 0xff);
        }
        return true;
    }

    int load() {
        try {
            Filed f = parse();
            for (int m = 0; m < f.methods.size(); m++) {
                decode(f, m);
            }
            for (int m = 0; m < f.methods.size(); m++) {
                verify(f, m);
            }
            file = f;
            faultKind = faultPlace = faultMethod = 0;
            run = false;
            over = ended = false;
            clearRun();
            return f.methods.size();
        } catch (Fault e) {
            faultKind = e.kind;
            faultPlace = e.place;
            faultMethod = e.method;
            throw new IllegalArgumentException();
        } finally {
            pending = new ArrayList<>();
        }
    }

    int fault(int what) {
        return what == 0 ? faultKind : what == 1 ? faultPlace : what == 2 ? faultMethod : NONE;
    }

    private int next() {
        if (pos >= pending.size()) {
            throw new Fault(1, pending.size(), 0);
        }
        return pending.get(pos++);
    }

    private void demand(boolean holds) {
        if (!holds) {
            throw new Fault(1, pos - 1, 0);
        }
    }

    private int number(int low, int high) {
        int v = next();
        demand(v >= low && v <= high);
        return v;
    }

    private int type(int classes, boolean orNothing) {
        int v = next();
        demand(v == 1 || v == 2 || v >= 16 && v < 16 + classes || orNothing && v == 0);
        return v;
    }

    private Sig signature(int classes, int most) {
        Sig s = new Sig();
        int n = number(0, most);
        for (int i = 0; i < n; i++) {
            s.params.add(type(classes, false));
        }
        s.ret = type(classes, true);
        return s;
    }

    private Filed parse() {
        pos = 0;
        Filed f = new Filed();
        int classes = number(0, 8);
        for (int c = 0; c < classes; c++) {
            Cls k = new Cls();
            k.sup = number(0, c) - 1;
            if (k.sup != NONE) {
                k.fields.addAll(f.classes.get(k.sup).fields);
            }
            int adds = number(0, 4);
            demand(k.fields.size() + adds <= 8);
            for (int i = 0; i < adds; i++) {
                k.fields.add(type(classes, false));
            }
            f.classes.add(k);
        }
        int selectors = number(0, 8);
        for (int s = 0; s < selectors; s++) {
            f.selectors.add(signature(classes, 3));
        }
        int methods = number(1, 16);
        for (int m = 0; m < methods; m++) {
            Meth t = new Meth();
            t.sig = signature(classes, 4);
            t.locals = number(t.sig.params.size(), 8);
            t.stack = number(0, 8);
            t.code = new int[number(1, 120)];
            for (int i = 0; i < t.code.length; i++) {
                t.code[i] = next();
            }
            f.methods.add(t);
        }
        for (int c = 0; c < classes; c++) {
            Cls k = f.classes.get(c);
            k.table = new int[selectors];
            for (int s = 0; s < selectors; s++) {
                int v = number(0, methods);
                if (v == 0) {
                    k.table[s] = k.sup == NONE ? NONE : f.classes.get(k.sup).table[s];
                    continue;
                }
                Sig is = f.methods.get(v - 1).sig;
                Sig wants = f.selectors.get(s);
                demand(is.params.size() > 0 && is.params.get(0) >= 16 && f.isOrBelow(c, is.params.get(0) - 16));
                demand(is.params.subList(1, is.params.size()).equals(wants.params) && is.ret == wants.ret);
                k.table[s] = v - 1;
            }
        }
        if (pos < pending.size()) {
            throw new Fault(1, pos, 0);
        }
        return f;
    }

    private static int length(int[] code, int p) {
        int op = code[p];
        if (op > 53) {
            return 0;
        }
        if (op == 53) {
            return p + 1 < code.length ? 3 + code[p + 1] : 999;
        }
        if (op == 1 || op == 20 || op == 39 || op == 40) {
            return 3;
        }
        boolean two = op == 0 || op == 3 || op == 4 || op >= 21 && op <= 38 || op >= 45 && op <= 48;
        return two ? 2 : 1;
    }

    private void decode(Filed f, int m) {
        Meth t = f.methods.get(m);
        Set<Integer> none = new HashSet<>();
        for (int p = 0; p < t.code.length;) {
            int n = length(t.code, p);
            t.lengths.put(p, n);
            if (n == 0 || p + n > t.code.length) {
                none.add(p);
                break;
            }
            p += n;
        }
        for (int p : t.lengths.keySet()) {
            if (none.contains(p) || faulty(f, t, p)) {
                throw new Fault(2, p, m);
            }
        }
    }

    private static boolean faulty(Filed f, Meth t, int p) {
        int op = t.code[p];
        int a = p + 1 < t.code.length ? t.code[p + 1] : 0;
        if (op == 3 || op == 4 || op == 20) {
            if (a >= t.locals) {
                return true;
            }
        }
        if (op == 38 || op == 39 || op == 40 || op == 45 || op == 46) {
            if (a >= f.classes.size()) {
                return true;
            }
            if ((op == 39 || op == 40) && t.code[p + 2] >= f.classes.get(a).fields.size()) {
                return true;
            }
        }
        if (op == 47 && a >= f.methods.size() || op == 48 && a >= f.selectors.size()) {
            return true;
        }
        if (op == 53 && (a < 1 || a > 8)) {
            return true;
        }
        for (int to : targets(t, p)) {
            if (!t.lengths.containsKey(to)) {
                return true;
            }
        }
        boolean last = p + t.lengths.get(p) == t.code.length;
        return last && op != 21 && op != 49 && op != 50 && op != 53;
    }

    private static List<Integer> targets(Meth t, int p) {
        List<Integer> all = new ArrayList<>();
        int op = t.code[p];
        if (op >= 21 && op <= 37) {
            all.add(t.code[p + 1]);
        }
        if (op == 53) {
            for (int i = 0; i <= t.code[p + 1]; i++) {
                all.add(t.code[p + 2 + i]);
            }
        }
        return all;
    }

    // ---- verifying: all states are worked out anew from all ways until nothing changes

    private void verify(Filed f, int m) {
        Meth t = f.methods.get(m);
        Before first = new Before();
        for (int i = 0; i < t.locals; i++) {
            first.locals.add(i < t.sig.params.size() ? t.sig.params.get(i) : 0);
        }
        boolean changed = true;
        while (changed) {
            changed = false;
            Map<Integer, Before> now = new HashMap<>();
            now.put(0, first);
            for (int p : t.lengths.keySet()) {
                Before b = t.before.get(p);
                if (b == null) {
                    continue;
                }
                Before out = behind(f, t, p, b);
                List<Integer> to = targets(t, p);
                int op = t.code[p];
                if (op != 21 && op != 49 && op != 50 && op != 53) {
                    to.add(p + t.lengths.get(p));
                }
                for (int q : to) {
                    now.put(q, now.containsKey(q) ? merge(f, now.get(q), out) : out);
                }
            }
            for (int q : now.keySet()) {
                Before old = t.before.get(q);
                if (old == null || !old.same(now.get(q))) {
                    changed = true;
                }
            }
            t.before = now;
        }
        for (int p : t.lengths.keySet()) {
            Before b = t.before.get(p);
            if (b != null && wrong(f, t, p, b)) {
                throw new Fault(3, p, m);
            }
        }
    }

    private static Before merge(Filed f, Before a, Before b) {
        Before r = a.copy();
        if (a.clash || b.clash || a.stack.size() != b.stack.size()) {
            r.clash = true;
            return r;
        }
        for (int i = 0; i < r.locals.size(); i++) {
            r.locals.set(i, join(f, a.locals.get(i), b.locals.get(i)));
        }
        for (int i = 0; i < r.stack.size(); i++) {
            r.stack.set(i, join(f, a.stack.get(i), b.stack.get(i)));
        }
        return r;
    }

    private static int join(Filed f, int a, int b) {
        if (a == b) {
            return a;
        }
        if (a == 3 || b == 3) {
            int o = a == 3 ? b : a;
            return o == 2 || o >= 15 ? o : 0;
        }
        if (a >= 15 && b >= 15) {
            if (a == 15 || b == 15) {
                return 15;
            }
            for (int c = a - 16; c != NONE; c = f.classes.get(c).sup) {
                if (f.isOrBelow(b - 16, c)) {
                    return 16 + c;
                }
            }
            return 15;
        }
        return 0;
    }

    private static int takes(Filed f, Meth t, int p) {
        int op = t.code[p];
        if (op == 47) {
            return f.methods.get(t.code[p + 1]).sig.params.size();
        }
        if (op == 48) {
            return 1 + f.selectors.get(t.code[p + 1]).params.size();
        }
        if (op == 43) {
            return 3;
        }
        if (op == 7 || op >= 8 && op <= 18 || op >= 28 && op <= 33 || op == 36 || op == 37 || op == 40 || op == 42) {
            return 2;
        }
        if (op >= 4 && op <= 6 || op == 19 || op >= 22 && op <= 27 || op == 34 || op == 35 || op == 39 || op == 41) {
            return 1;
        }
        return op == 44 || op == 45 || op == 46 || op == 50 || op == 51 || op == 53 ? 1 : 0;
    }

    private static List<Integer> puts(Filed f, Meth t, int p, Before b) {
        int op = t.code[p];
        List<Integer> st = b.stack;
        int h = st.size();
        int a = p + 1 < t.code.length ? t.code[p + 1] : 0;
        switch (op) {
            case 2: return List.of(3);
            case 3: return List.of(b.locals.get(a));
            case 6: return h < 1 ? List.of(0, 0) : List.of(st.get(h - 1), st.get(h - 1));
            case 7: return h < 2 ? List.of(0, 0) : List.of(st.get(h - 1), st.get(h - 2));
            case 38: case 46: return List.of(16 + a);
            case 39: return List.of(f.classes.get(a).fields.get(t.code[p + 2]));
            case 41: return List.of(2);
            case 47: return some(f.methods.get(a).sig.ret);
            case 48: return some(f.selectors.get(a).ret);
            case 0: case 1: case 42: case 44: case 45: case 52: return List.of(1);
            default: return op >= 8 && op <= 19 ? List.of(1) : List.of();
        }
    }

    private static List<Integer> some(int ret) {
        return ret == 0 ? List.of() : List.of(ret);
    }

    private static boolean unheld(Filed f, Meth t, int p, Before b) {
        if (b.clash) {
            return true;
        }
        int left = b.stack.size() - takes(f, t, p);
        return left < 0 || left + puts(f, t, p, b).size() > t.stack;
    }

    private static Before behind(Filed f, Meth t, int p, Before b) {
        Before r = b.copy();
        if (unheld(f, t, p, b)) {
            r.clash = true;
            return r;
        }
        List<Integer> put = puts(f, t, p, b);
        int n = takes(f, t, p);
        int top = n > 0 ? r.stack.get(r.stack.size() - 1) : 0;
        for (int i = 0; i < n; i++) {
            r.stack.remove(r.stack.size() - 1);
        }
        r.stack.addAll(put);
        if (t.code[p] == 4) {
            r.locals.set(t.code[p + 1], top);
        }
        return r;
    }

    private static boolean fit(Filed f, int kind, int type) {
        return kind == type || kind == 3 && type != 1
            || kind >= 16 && type >= 16 && f.isOrBelow(kind - 16, type - 16);
    }

    private static boolean wrong(Filed f, Meth t, int p, Before b) {
        if (unheld(f, t, p, b)) {
            return true;
        }
        int op = t.code[p];
        int a = p + 1 < t.code.length ? t.code[p + 1] : 0;
        List<Integer> taken = b.stack.subList(b.stack.size() - takes(f, t, p), b.stack.size());
        if (op == 3) {
            return b.locals.get(a) == 0;
        }
        if (op >= 4 && op <= 7) {
            return taken.contains(0);
        }
        if (op == 20) {
            return b.locals.get(a) != 1;
        }
        if (op >= 8 && op <= 33 || op == 41 || op == 51 || op == 53) {
            return taken.stream().anyMatch(k -> k != 1);
        }
        if (op >= 34 && op <= 37) {
            boolean array = taken.contains(2);
            boolean ref = taken.stream().anyMatch(k -> k >= 15);
            return taken.contains(0) || taken.contains(1) || array && ref;
        }
        if (op >= 42 && op <= 44) {
            return !fit(f, taken.get(0), 2) || taken.subList(1, taken.size()).stream().anyMatch(k -> k != 1);
        }
        if (op == 45 || op == 46) {
            return taken.get(0) <= 2;
        }
        if (op == 39) {
            return !fit(f, taken.get(0), 16 + a);
        }
        if (op == 40) {
            int type = f.classes.get(a).fields.get(t.code[p + 2]);
            return !fit(f, taken.get(0), 16 + a) || !fit(f, taken.get(1), type);
        }
        if (op == 47) {
            return !allFit(f, taken, f.methods.get(a).sig.params);
        }
        if (op == 48) {
            int x = taken.get(0);
            boolean has = x >= 16 && f.classes.get(x - 16).table[a] != NONE;
            return !has || !allFit(f, taken.subList(1, taken.size()), f.selectors.get(a).params);
        }
        if (op == 49) {
            return t.sig.ret != 0;
        }
        if (op == 50) {
            return t.sig.ret == 0 || !fit(f, taken.get(0), t.sig.ret);
        }
        return false;
    }

    private static boolean allFit(Filed f, List<Integer> kinds, List<Integer> types) {
        for (int i = 0; i < types.size(); i++) {
            if (!fit(f, kinds.get(i), types.get(i))) {
                return false;
            }
        }
        return true;
    }

    int kind(int m, int place, int i) {
        if (file == null || m < 0 || m >= file.methods.size()) {
            return NONE;
        }
        Before b = file.methods.get(m).before.get(place);
        if (b == null) {
            return NONE;
        }
        if (i >= 0 && i < b.locals.size()) {
            return b.locals.get(i);
        }
        return i >= 100 && i < 100 + b.stack.size() ? b.stack.get(i - 100) : NONE;
    }

    // ---- running

    private int hot = 3, samples = 2, depth = 2, size = 40, roomNext = 500;
    private final List<Integer> inputs = new ArrayList<>();
    private int stepsInAll, compiledInAll;
    private boolean run, over, ended;
    private int trap, returned, steps, room, used, latest;
    private List<Frame> frames = new ArrayList<>();
    private List<Integer> outputs = new ArrayList<>();
    private List<int[]> log = new ArrayList<>();
    private int[] counts = new int[16];
    private Plan[] plans = new Plan[16];
    private Map<String, Integer> profiles = new HashMap<>();

    boolean tiers(int h, int sa, int d, int si) {
        if (h < 1 || h > 1000 || sa < 1 || sa > 1000 || d < 0 || d > 4 || si < 0 || si > 120) {
            return false;
        }
        hot = h;
        samples = sa;
        depth = d;
        size = si;
        return true;
    }

    boolean room(int cells) {
        if (cells < 8 || cells > 4000) {
            return false;
        }
        roomNext = cells;
        return true;
    }

    boolean give(int v) {
        return inputs.size() < 100 && inputs.add(v);
    }

    private void clearRun() {
        trap = returned = steps = room = used = latest = 0;
        frames = new ArrayList<>();
        outputs = new ArrayList<>();
        log = new ArrayList<>();
        counts = new int[16];
        plans = new Plan[16];
        profiles = new HashMap<>();
    }

    boolean start(int... args) {
        if (file == null) {
            return false;
        }
        Sig first = file.methods.get(0).sig;
        for (int type : first.params) {
            if (type != 1) {
                return false;
            }
        }
        clearRun();
        run = true;
        over = ended = false;
        room = roomNext;
        List<Object> values = new ArrayList<>();
        for (int i = 0; i < first.params.size(); i++) {
            values.add(args[i]);
        }
        invoke(0, values);
        return true;
    }

    int run(int n) {
        if (n < 1 || n > 2000) {
            throw new IllegalArgumentException();
        }
        if (!run || over) {
            throw new IllegalStateException();
        }
        if (stepsInAll == 60000) {
            throw new ArithmeticException();
        }
        int done = 0;
        while (done < n && stepsInAll < 60000 && !over) {
            try {
                step();
                done++;
                steps++;
                stepsInAll++;
            } catch (Trap t) {
                trap = t.which;
                over = true;
            }
        }
        return done;
    }

    private Frame last() {
        return frames.get(frames.size() - 1);
    }

    private static Object pop(Frame f) {
        return f.stack.remove(f.stack.size() - 1);
    }

    private static int num(Object o) {
        return (Integer) o;
    }

    private static Object fromTop(Frame f, int i) {
        return f.stack.get(f.stack.size() - 1 - i);
    }

    private static Obj notNull(Object o) {
        if (o == null) {
            throw new Trap(2);
        }
        return (Obj) o;
    }

    private void step() {
        Frame f = last();
        Meth t = file.methods.get(f.method);
        int p = f.place;
        int op = t.code[p];
        int a = p + 1 < t.code.length ? t.code[p + 1] : 0;
        int behind = p + t.lengths.get(p);
        if (op == 47 || op == 48) {
            call(f, op, a);
            return;
        }
        if (op == 49 || op == 50) {
            Object v = op == 50 ? pop(f) : null;
            frames.remove(frames.size() - 1);
            if (frames.isEmpty()) {
                over = ended = true;
                returned = file.methods.get(0).sig.ret == 1 ? num(v) : 0;
            } else {
                last().called = NONE;
                if (op == 50) {
                    last().stack.add(v);
                }
            }
            return;
        }
        if (op >= 21 && op <= 37 || op == 53) {
            int to = jump(f, t, p, op);
            if (to != NONE && to <= p && f.tier == 0) {
                counts[f.method]++;
            }
            f.place = to == NONE ? behind : to;
            return;
        }
        if (op >= 8 && op <= 19) {
            arithmetic(f, op);
        } else {
            other(f, t, p, op, a);
        }
        f.place = behind;
    }

    private static int jump(Frame f, Meth t, int p, int op) {
        if (op == 21) {
            return t.code[p + 1];
        }
        if (op == 53) {
            int n = t.code[p + 1];
            int x = num(pop(f));
            return t.code[p + 2 + (x < 0 || x >= n ? n : x)];
        }
        Object y = pop(f);
        boolean two = op >= 28 && op <= 33 || op >= 36;
        Object x = two ? pop(f) : y;
        boolean yes;
        switch (op) {
            case 22: yes = num(x) == 0; break;
            case 23: yes = num(x) != 0; break;
            case 24: yes = num(x) < 0; break;
            case 25: yes = num(x) >= 0; break;
            case 26: yes = num(x) > 0; break;
            case 27: yes = num(x) <= 0; break;
            case 28: yes = num(x) == num(y); break;
            case 29: yes = num(x) != num(y); break;
            case 30: yes = num(x) < num(y); break;
            case 31: yes = num(x) >= num(y); break;
            case 32: yes = num(x) > num(y); break;
            case 33: yes = num(x) <= num(y); break;
            case 34: yes = x == null; break;
            case 35: yes = x != null; break;
            case 36: yes = x == y; break;
            default: yes = x != y; break;
        }
        return yes ? t.code[p + 1] : NONE;
    }

    private static void arithmetic(Frame f, int op) {
        if ((op == 11 || op == 12) && num(fromTop(f, 0)) == 0) {
            throw new Trap(1);
        }
        long y = num(pop(f));
        if (op == 19) {
            f.stack.add((int) -y);
            return;
        }
        long x = num(pop(f));
        int by = (int) (y & 31);
        long r;
        switch (op) {
            case 8: r = x + y; break;
            case 9: r = x - y; break;
            case 10: r = x * y; break;
            case 11: r = x / y; break;
            case 12: r = x % y; break;
            case 13: r = x & y; break;
            case 14: r = x | y; break;
            case 15: r = x ^ y; break;
            case 16: r = x << by; break;
            case 17: r = x >> by; break;
            default: r = (x & 0xffffffffL) >> by; break;
        }
        f.stack.add((int) r);
    }

    private void other(Frame f, Meth t, int p, int op, int a) {
        switch (op) {
            case 0: f.stack.add((int) (byte) a); break;
            case 1: f.stack.add((int) (short) (a * 256 + t.code[p + 2])); break;
            case 2: f.stack.add(null); break;
            case 3: f.stack.add(f.locals[a]); break;
            case 4: f.locals[a] = pop(f); break;
            case 5: pop(f); break;
            case 6: f.stack.add(fromTop(f, 0)); break;
            case 7: f.stack.add(f.stack.remove(f.stack.size() - 2)); break;
            case 20: f.locals[a] = num(f.locals[a]) + (byte) t.code[p + 2]; break;
            case 38: {
                Obj o = make(f, a, file.classes.get(a).fields.size());
                for (int i = 0; i < o.parts.length; i++) {
                    o.parts[i] = file.classes.get(a).fields.get(i) == 1 ? (Object) 0 : null;
                }
                f.stack.add(o);
                break;
            }
            case 39: {
                Obj o = notNull(fromTop(f, 0));
                pop(f);
                f.stack.add(o.parts[t.code[p + 2]]);
                break;
            }
            case 40: {
                Obj o = notNull(fromTop(f, 1));
                o.parts[t.code[p + 2]] = pop(f);
                pop(f);
                break;
            }
            case 41: {
                int n = num(fromTop(f, 0));
                if (n < 0) {
                    throw new Trap(4);
                }
                Obj o = make(f, 16, n);
                Arrays.fill(o.parts, 0);
                pop(f);
                f.stack.add(o);
                break;
            }
            case 42: {
                Obj o = notNull(fromTop(f, 1));
                int i = index(o, fromTop(f, 0));
                pop(f);
                pop(f);
                f.stack.add(o.parts[i]);
                break;
            }
            case 43: {
                Obj o = notNull(fromTop(f, 2));
                int i = index(o, fromTop(f, 1));
                o.parts[i] = pop(f);
                pop(f);
                pop(f);
                break;
            }
            case 44: {
                Obj o = notNull(fromTop(f, 0));
                pop(f);
                f.stack.add(o.parts.length);
                break;
            }
            case 45: {
                Obj o = (Obj) pop(f);
                f.stack.add(o != null && file.isOrBelow(o.cls, a) ? 1 : 0);
                break;
            }
            case 46: {
                Obj o = (Obj) fromTop(f, 0);
                if (o != null && !file.isOrBelow(o.cls, a)) {
                    throw new Trap(5);
                }
                break;
            }
            case 51: outputs.add(num(pop(f))); break;
            case 52: f.stack.add(inputs.isEmpty() ? (Object) 0 : inputs.remove(0)); break;
            default: throw new AssertionError("op " + op);
        }
    }

    private static int index(Obj o, Object i) {
        if (num(i) < 0 || num(i) >= o.parts.length) {
            throw new Trap(3);
        }
        return num(i);
    }

    private Obj make(Frame f, int cls, int parts) {
        long cells = 2L + parts;
        if (used + cells > room) {
            int was = used;
            used = reached();
            entry(3, f.method, was, used);
        }
        if (used + cells > room) {
            throw new Trap(6);
        }
        used += (int) cells;
        Obj o = new Obj();
        o.number = ++latest;
        o.cls = cls;
        o.parts = new Object[parts];
        return o;
    }

    private int reached() {
        Set<Obj> found = new HashSet<>();
        List<Obj> todo = new ArrayList<>();
        for (Frame f : frames) {
            Before b = kinds(f);
            for (int i = 0; i < f.locals.length; i++) {
                if (b.locals.get(i) != 0) {
                    reach(f.locals[i], found, todo);
                }
            }
            for (int i = 0; i < f.stack.size(); i++) {
                if (b.stack.get(i) != 0) {
                    reach(f.stack.get(i), found, todo);
                }
            }
        }
        int all = 0;
        for (int i = 0; i < todo.size(); i++) {
            all += 2 + todo.get(i).parts.length;
            for (Object part : todo.get(i).parts) {
                reach(part, found, todo);
            }
        }
        return all;
    }

    private static void reach(Object v, Set<Obj> found, List<Obj> todo) {
        if (v instanceof Obj && found.add((Obj) v)) {
            todo.add((Obj) v);
        }
    }

    private Before kinds(Frame f) {
        return file.methods.get(f.method).before.get(f.called == NONE ? f.place : f.called);
    }

    private void entry(int which, int m, int third, int fourth) {
        if (log.size() < 300) {
            log.add(new int[] {which, steps, m, third, fourth});
        }
    }

    private static String key(int m, int place, int c) {
        return m + ":" + place + ":" + c;
    }

    private int profiled(int m, int place, int c) {
        return profiles.getOrDefault(key(m, place, c), 0);
    }

    private void call(Frame f, int op, int a) {
        int params = op == 47 ? file.methods.get(a).sig.params.size() : 1 + file.selectors.get(a).params.size();
        int cls = 0;
        int callee = a;
        if (op == 48) {
            cls = notNull(fromTop(f, params - 1)).cls;
            callee = file.classes.get(cls).table[a];
        }
        if (frames.size() == 64) {
            throw new Trap(7);
        }
        Node site = null;
        if (f.tier != 0) {
            site = (f.tier == 1 ? f.plan.top : f.node.inner).get(f.place);
            if (site != null && op == 48 && site.guard != cls) {
                guardFails(f);
                site = null;
            }
        }
        if (f.tier == 0) {
            profiles.merge(key(f.method, f.place, cls), 1, Integer::sum);
        }
        List<Object> args = new ArrayList<>(f.stack.subList(f.stack.size() - params, f.stack.size()));
        for (int i = 0; i < params; i++) {
            pop(f);
        }
        f.called = f.place;
        f.place += 2;
        if (site == null) {
            invoke(callee, args);
        } else {
            Frame n = frame(callee, args);
            n.tier = 2;
            n.plan = f.plan;
            n.node = site;
        }
    }

    private Frame frame(int m, List<Object> args) {
        Frame n = new Frame();
        n.method = m;
        n.locals = Arrays.copyOf(args.toArray(), file.methods.get(m).locals);
        frames.add(n);
        return n;
    }

    private void invoke(int m, List<Object> args) {
        counts[m]++;
        if (counts[m] >= hot && plans[m] == null && compiledInAll < 30) {
            Plan plan = new Plan();
            plan.top = inline(plan, m, 0);
            plans[m] = plan;
            compiledInAll++;
            entry(1, m, plan.all.size(), file.methods.get(m).code.length + plan.bytes);
        }
        Frame n = frame(m, args);
        n.plan = plans[m];
        n.tier = plans[m] == null ? 0 : 1;
    }

    private Map<Integer, Node> inline(Plan plan, int m, int deep) {
        Map<Integer, Node> here = new HashMap<>();
        Meth t = file.methods.get(m);
        for (int p : t.lengths.keySet()) {
            int op = t.code[p];
            if (op != 47 && op != 48) {
                continue;
            }
            Node n = new Node();
            n.deep = deep;
            n.method = m;
            n.place = p;
            int sum = 0;
            int classes = 0;
            for (int c = 0; c < (op == 47 ? 1 : file.classes.size()); c++) {
                int k = profiled(m, p, c);
                sum += k;
                if (k > 0) {
                    classes++;
                    n.guard = c;
                }
            }
            if (sum < samples || classes != 1 || deep >= depth) {
                continue;
            }
            if (op == 47) {
                n.guard = NONE;
                n.callee = t.code[p + 1];
            } else {
                n.callee = file.classes.get(n.guard).table[t.code[p + 1]];
            }
            int bytes = file.methods.get(n.callee).code.length;
            if (bytes > size || plan.bytes + bytes > 300) {
                continue;
            }
            plan.bytes += bytes;
            plan.all.add(n);
            here.put(p, n);
            n.inner = inline(plan, n.callee, deep + 1);
        }
        return here;
    }

    private void guardFails(Frame f) {
        int i = frames.size() - 1;
        while (frames.get(i).tier == 2) {
            i--;
        }
        Frame outer = frames.get(i);
        entry(2, outer.method, f.method, f.place);
        if (plans[outer.method] == outer.plan) {
            plans[outer.method] = null;
            counts[outer.method] = 0;
        }
        for (; i < frames.size(); i++) {
            frames.get(i).tier = 0;
        }
    }

    // ---- seeing

    int state() {
        return !run ? 0 : !over ? 1 : ended ? 2 : 3;
    }

    int result(int what) {
        return what == 0 ? trap : what == 1 ? returned : NONE;
    }

    int output(int k) {
        if (k < 0 || k >= outputs.size() || k >= 500) {
            throw new NoSuchElementException();
        }
        return outputs.get(k);
    }

    private Frame from(int k) {
        return k < 0 || k >= frames.size() ? null : frames.get(frames.size() - 1 - k);
    }

    int frame(int k, int what) {
        Frame f = from(k);
        if (f == null) {
            return NONE;
        }
        return what == 0 ? f.method : what == 1 ? f.place : what == 2 ? f.tier : what == 3 ? f.stack.size() : NONE;
    }

    private Object value(int k, int i) {
        Frame f = from(k);
        if (f == null) {
            throw new NoSuchElementException();
        }
        Before b = kinds(f);
        if (i >= 0 && i < f.locals.length && b.locals.get(i) != 0) {
            return f.locals[i];
        }
        if (i >= 100 && i < 100 + f.stack.size() && b.stack.get(i - 100) != 0) {
            return f.stack.get(i - 100);
        }
        throw new NoSuchElementException();
    }

    private static int shown(Object v) {
        return v == null ? 0 : v instanceof Obj ? ((Obj) v).number : num(v);
    }

    int local(int k, int i) {
        return shown(value(k, i));
    }

    int part(int k, int i, int what) {
        Object v = value(k, i);
        if (!(v instanceof Obj) || what < 0 || what >= 2 + ((Obj) v).parts.length) {
            throw new NoSuchElementException();
        }
        Obj o = (Obj) v;
        return what == 0 ? o.cls : what == 1 ? o.parts.length : shown(o.parts[what - 2]);
    }

    int method(int m, int what) {
        if (file == null || m < 0 || m >= file.methods.size() || what < 0 || what > 2) {
            return NONE;
        }
        if (what == 0) {
            return counts[m];
        }
        return plans[m] == null ? 0 : what == 1 ? 1 : plans[m].all.size();
    }

    int inlined(int m, int k, int what) {
        if (file == null || m < 0 || m >= file.methods.size() || plans[m] == null) {
            return NONE;
        }
        if (k < 0 || k >= plans[m].all.size()) {
            return NONE;
        }
        Node n = plans[m].all.get(k);
        switch (what) {
            case 0: return n.deep;
            case 1: return n.method;
            case 2: return n.place;
            case 3: return n.guard;
            case 4: return n.callee;
            default: return NONE;
        }
    }

    int profile(int m, int place, int c) {
        if (!run || m < 0 || m >= file.methods.size()) {
            return NONE;
        }
        Meth t = file.methods.get(m);
        if (!t.lengths.containsKey(place) || t.code[place] != 47 && t.code[place] != 48) {
            return NONE;
        }
        boolean known = t.code[place] == 47 ? c == 0 : c >= 0 && c < file.classes.size();
        return known ? profiled(m, place, c) : NONE;
    }

    int log(int k, int what) {
        return k < 0 || k >= log.size() || what < 0 || what > 4 ? NONE : log.get(k)[what];
    }

    int total(int what) {
        switch (what) {
            case 0: return steps;
            case 1: return stepsInAll;
            case 2: return outputs.size();
            case 3: return frames.size();
            case 4: return log.size();
            case 5: return used;
            case 6: return latest;
            case 7: return compiledInAll;
            case 8: return inputs.size();
            case 9: return room;
            default: return NONE;
        }
    }
}
