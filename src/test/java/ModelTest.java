import java.util.NoSuchElementException;
import java.util.Random;

/** TierMill and the Model get the same calls by chance: all that can be seen must be the same. */
final class ModelTest {
    private static int loaded, ended, trapped, guards, collections, plans, inlinedSites, faults;
    private static final int[] faultKinds = new int[4];
    private static final int[] traps = new int[8];

    private final Random r;
    private final TierMill mill = new TierMill();
    private final Model model = new Model();

    private ModelTest(long seed) {
        // Neighbouring seeds begin alike without this.
        r = new Random(seed * 0x9E3779B97F4A7C15L);
    }

    private static void same(String what, int got, int want) {
        if (got != want) {
            throw new IllegalStateException(what + " answered " + got + ", due is " + want);
        }
    }

    private static void same(String what, boolean got, boolean want) {
        same(what, got ? 1 : 0, want ? 1 : 0);
    }

    private boolean load(int[] bytes) {
        for (int i = 0; i < bytes.length;) {
            int n = Math.min(bytes.length - i, 1 + r.nextInt(8));
            long word = r.nextLong();
            for (int k = 0; k < n; k++) {
                word = word << 8 | bytes[i + k];
            }
            i += n;
            same("put", mill.put(word, n), model.put(word, n));
        }
        int want = -1;
        int got = -1;
        try {
            want = model.load();
        } catch (IllegalArgumentException e) {
            want = -1;
        }
        try {
            got = mill.load();
        } catch (IllegalArgumentException e) {
            got = -1;
        }
        for (int what = -1; what <= 3; what++) {
            same("fault " + what, mill.fault(what), model.fault(what));
        }
        same("load", got, want);
        faultKinds[model.fault(0)]++;
        return want >= 0;
    }

    private void compareKinds() {
        for (int m = -1; m <= 16; m++) {
            for (int p = -1; p <= 120; p++) {
                int most = model.kind(m, p, 0) + model.kind(m, p, 100) == -2 ? 0 : 8;
                for (int i = -1; i <= most; i++) {
                    same("kind", mill.kind(m, p, i), model.kind(m, p, i));
                    same("kind", mill.kind(m, p, i + 100), model.kind(m, p, i + 100));
                }
            }
        }
    }

    private int localOf(boolean ofMill, int k, int i) {
        try {
            return ofMill ? mill.local(k, i) : model.local(k, i);
        } catch (NoSuchElementException e) {
            return -777777;
        }
    }

    private int partOf(boolean ofMill, int k, int i, int what) {
        try {
            return ofMill ? mill.part(k, i, what) : model.part(k, i, what);
        } catch (NoSuchElementException e) {
            return -777777;
        }
    }

    private int outputOf(boolean ofMill, int k) {
        try {
            return ofMill ? mill.output(k) : model.output(k);
        } catch (NoSuchElementException e) {
            return -777777;
        }
    }

    private void compareSlot(int k, int i) {
        same("local " + k + " " + i, localOf(true, k, i), localOf(false, k, i));
        int most = partOf(false, k, i, 0) == -777777 ? 0 : 12;
        for (int what = Math.min(0, most - 1); what <= most; what++) {
            same("part", partOf(true, k, i, what), partOf(false, k, i, what));
        }
    }

    private void compareRun() {
        same("state", mill.state(), model.state());
        for (int what = -1; what <= 2; what++) {
            same("result " + what, mill.result(what), model.result(what));
        }
        for (int what = -1; what <= 10; what++) {
            same("total " + what, mill.total(what), model.total(what));
        }
        for (int k = -1; k <= model.total(2) && k < 502; k++) {
            same("output", outputOf(true, k), outputOf(false, k));
        }
        for (int k = -1; k <= model.total(3); k++) {
            for (int what = -1; what <= 4; what++) {
                same("frame " + k + " " + what, mill.frame(k, what), model.frame(k, what));
            }
            for (int i = -1; i <= 8; i++) {
                compareSlot(k, i);
                compareSlot(k, i + 100);
            }
        }
        for (int k = -1; k <= model.total(4); k++) {
            for (int what = -1; what <= 5; what++) {
                same("log " + k + " " + what, mill.log(k, what), model.log(k, what));
            }
        }
        compareTiers();
    }

    private void compareTiers() {
        for (int m = -1; m <= 16; m++) {
            for (int what = -1; what <= 3; what++) {
                same("method " + m + " " + what, mill.method(m, what), model.method(m, what));
            }
            for (int k = -1; k <= Math.max(0, model.method(m, 2)); k++) {
                for (int what = -1; what <= 5; what++) {
                    same("inlined", mill.inlined(m, k, what), model.inlined(m, k, what));
                }
            }
            for (int p = -1; p <= 120; p++) {
                int most = model.profile(m, p, 0) == -1 ? 0 : 8;
                for (int c = Math.min(0, most - 9); c <= most; c++) {
                    same("profile", mill.profile(m, p, c), model.profile(m, p, c));
                }
            }
        }
    }

    private int runOf(boolean ofMill, int n) {
        try {
            return ofMill ? mill.run(n) : model.run(n);
        } catch (IllegalArgumentException e) {
            return -1;
        } catch (IllegalStateException e) {
            return -2;
        } catch (ArithmeticException e) {
            return -3;
        }
    }

    private void settings() {
        int hot = r.nextInt(100) < 5 ? r.nextInt(1100) - 50 : 1 + r.nextInt(6);
        int samples = r.nextInt(100) < 5 ? r.nextInt(1100) - 50 : 1 + r.nextInt(3);
        int depth = r.nextInt(100) < 5 ? r.nextInt(9) - 2 : r.nextInt(5);
        int size = r.nextInt(2) == 0 ? 120 : r.nextInt(130) - 4;
        same("tiers", mill.tiers(hot, samples, depth, size), model.tiers(hot, samples, depth, size));
    }

    private void oneRun() {
        if (r.nextInt(3) > 0) {
            settings();
        }
        int room = r.nextInt(3) == 0 ? r.nextInt(4100) : 8 + r.nextInt(100);
        same("room", mill.room(room), model.room(room));
        int usual = r.nextInt(6) - 1;
        for (int i = r.nextInt(16); i > 0; i--) {
            int v = r.nextInt(5) > 0 ? usual : r.nextInt(8) == 0 ? r.nextInt() : r.nextInt(7) - 1;
            same("give", mill.give(v), model.give(v));
        }
        int a = r.nextInt(20) - 2;
        int b = r.nextInt();
        boolean begins = model.start(a, b, 3, -4);
        same("start", mill.start(a, b, 3, -4), begins);
        compareRun();
        for (int k = r.nextInt(14); k > 0 && model.state() == 1; k--) {
            int n = r.nextInt(20) == 0 ? r.nextInt(2100) - 50 : r.nextInt(5) == 0 ? r.nextInt(400) : 1 + r.nextInt(30);
            int want = runOf(false, n);
            same("run " + n, runOf(true, n), want);
            if (k < 3 || r.nextInt(3) == 0) {
                compareRun();
            }
            if (r.nextInt(10) == 0) {
                settings();
            }
        }
        for (int k = 0; k < model.total(4); k++) {
            guards += model.log(k, 0) == 2 ? 1 : 0;
            collections += model.log(k, 0) == 3 ? 1 : 0;
            plans += model.log(k, 0) == 1 ? 1 : 0;
            inlinedSites += model.log(k, 0) == 1 ? model.log(k, 3) : 0;
        }
        ended += model.state() == 2 ? 1 : 0;
        trapped += model.state() == 3 ? 1 : 0;
        traps[model.result(0)]++;
    }

    private void all() {
        for (int f = 0; f < 3; f++) {
            int[] bytes = r.nextInt(2) == 0 ? new RandomFile(r).make() : new TierFile(r).make();
            if (r.nextInt(4) == 0) {
                for (int k = 1 + r.nextInt(2); k > 0; k--) {
                    bytes[r.nextInt(bytes.length)] = r.nextInt(3) == 0 ? r.nextInt(256) : r.nextInt(54);
                }
            }
            if (r.nextInt(30) == 0) {
                bytes = java.util.Arrays.copyOf(bytes, Math.max(0, bytes.length + r.nextInt(9) - 6));
            }
            if (bytes.length > 1500) {
                continue;
            }
            if (load(bytes)) {
                loaded++;
                compareKinds();
            } else {
                faults++;
            }
            compareRun();
            for (int k = 1 + r.nextInt(3); k > 0; k--) {
                oneRun();
            }
        }
    }

    public static void main(String[] args) {
        long first = args.length > 0 ? Long.parseLong(args[0]) : 1;
        long count = args.length > 1 ? Long.parseLong(args[1]) : 400;
        int wrong = 0;
        for (long seed = first; seed < first + count && wrong < 10; seed++) {
            try {
                new ModelTest(seed).all();
            } catch (RuntimeException e) {
                wrong++;
                System.out.println("seed " + seed + ": " + e);
                StackTraceElement[] at = e.getStackTrace();
                for (int i = 0; i < at.length && i < 4; i++) {
                    System.out.println("    " + at[i]);
                }
            }
        }
        System.out.println("loaded " + loaded + ", faults " + faults + " " + java.util.Arrays.toString(faultKinds)
            + ", ended " + ended + ", trapped " + trapped + " " + java.util.Arrays.toString(traps) + ", plans " + plans
            + ", inlined " + inlinedSites + ", guards failed " + guards + ", collections " + collections);
        if (wrong != 0) {
            System.exit(1);
        }
    }
}
