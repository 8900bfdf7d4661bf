import java.util.Random;

/**
 * All calls by chance, in any order and with odd arguments, on TierMill and on the Model: each answer must be the same,
 * above all behind calls that are refused. No object is used for more than 512 calls.
 */
final class MonkeyTest {
    private static final int MOST_CALLS = 512;
    private static final int[] ODD = {
        Integer.MIN_VALUE, Integer.MIN_VALUE + 1, -101, -100, -2, -1, 0, 1, 2, 3, 4, 5, 7, 8, 9, 15, 16, 17, 63, 64, 99,
        100, 101, 107, 108, 119, 120, 121, 299, 300, 499, 500, 999, 1000, 1001, 1500, 2000, 2001, 4000, 4001, 60000,
        Integer.MAX_VALUE - 1, Integer.MAX_VALUE};

    private static int calls, refused, begun, ended, trapped, tired;

    private final Random r;
    private final TierMill mill = new TierMill();
    private final Model model = new Model();
    private int[] bytes = {};
    private int from;
    private int left = MOST_CALLS;

    private MonkeyTest(long seed) {
        // Neighbouring seeds begin alike without this.
        r = new Random(seed * 0x9E3779B97F4A7C15L);
    }

    private void same(String what, Check.Call ofMill, Check.Call ofModel) {
        int want = Check.answered(ofModel);
        int got = Check.answered(ofMill);
        left--;
        calls++;
        refused += want <= Check.ARGUMENT && want >= Check.NO_ELEMENT ? 1 : 0;
        if (got != want) {
            throw new IllegalStateException("call " + (MOST_CALLS - left) + ": " + what + " answered " + got
                + ", due is " + want);
        }
    }

    private static int count(boolean answer) {
        return answer ? 1 : 0;
    }

    private int odd() {
        return ODD[r.nextInt(ODD.length)];
    }

    /** Mostly a number that is right, or next to it. */
    private int near(int low, int high) {
        return r.nextInt(8) == 0 ? odd() : low - 1 + r.nextInt(high - low + 3);
    }

    private void newFile() {
        bytes = r.nextInt(3) == 0 ? new RandomFile(r).make() : new TierFile(r).make();
        if (r.nextInt(4) == 0) {
            bytes[r.nextInt(bytes.length)] = r.nextInt(256);
        }
        from = 0;
    }

    /** The rest of a FILE, now and then with a put between that is refused, or too early an end. */
    private void putRest() {
        while (from < bytes.length && left > 3) {
            int n = Math.min(8, bytes.length - from);
            long word = 0;
            for (int i = 0; i < n; i++) {
                word = word << 8 | bytes[from + i];
            }
            from += n;
            put(word, n);
            if (r.nextInt(40) == 0) {
                put(r.nextLong(), r.nextBoolean() ? 0 : 9);
            }
            if (r.nextInt(300) == 0) {
                return;
            }
        }
    }

    private void put(long word, int n) {
        same("put(" + word + ", " + n + ")", () -> count(mill.put(word, n)), () -> count(model.put(word, n)));
    }

    private void load() {
        same("load()", mill::load, model::load);
        for (int what = 0; what < 3; what++) {
            int w = what;
            same("fault(" + w + ")", () -> mill.fault(w), () -> model.fault(w));
        }
    }

    private void settings() {
        int hot = near(1, 5);
        int samples = near(1, 3);
        int depth = near(0, 4);
        int size = r.nextBoolean() ? 120 : near(0, 120);
        same("tiers(" + hot + ", " + samples + ", " + depth + ", " + size + ")",
            () -> count(mill.tiers(hot, samples, depth, size)), () -> count(model.tiers(hot, samples, depth, size)));
        int room = r.nextBoolean() ? near(8, 60) : near(8, 4000);
        same("room(" + room + ")", () -> count(mill.room(room)), () -> count(model.room(room)));
    }

    private void give() {
        for (int i = r.nextInt(r.nextInt(8) == 0 ? 60 : 5); i >= 0 && left > 3; i--) {
            int v = r.nextInt(6) == 0 ? odd() : r.nextInt(5);
            same("give(" + v + ")", () -> count(mill.give(v)), () -> count(model.give(v)));
        }
    }

    private void start() {
        int a = r.nextInt(8) == 0 ? odd() : r.nextInt(20);
        int b = odd();
        same("start(" + a + ", " + b + ", 3, 4)", () -> count(mill.start(a, b, 3, 4)),
            () -> count(model.start(a, b, 3, 4)));
        begun += model.state() == 1 ? 1 : 0;
    }

    private void run() {
        int n = r.nextInt(3) == 0 ? near(1, 2000) : near(1, 40);
        int before = model.state();
        same("run(" + n + ")", () -> mill.run(n), () -> model.run(n));
        ended += before == 1 && model.state() == 2 ? 1 : 0;
        trapped += before == 1 && model.state() == 3 ? 1 : 0;
        tired += model.state() == 1 && model.total(1) == 60000 ? 1 : 0;
    }

    /** As many STEPS as one call may do, again and again. */
    private void runOn() {
        for (int i = r.nextInt(35); i >= 0 && left > 3; i--) {
            same("run(2000)", () -> mill.run(2000), () -> model.run(2000));
        }
    }

    private void look() {
        int a = near(0, 3);
        int b = near(0, 5);
        int c = r.nextInt(3) == 0 ? 100 + near(0, 3) : near(0, 4);
        int place = near(0, 60);
        String told = "(" + a + ", " + b + ", " + c + ") at " + place;
        switch (r.nextInt(14)) {
            case 0: same("state", mill::state, model::state); break;
            case 1: same("result" + told, () -> mill.result(a), () -> model.result(a)); break;
            case 2: same("output" + told, () -> mill.output(b), () -> model.output(b)); break;
            case 3: same("frame" + told, () -> mill.frame(a, b), () -> model.frame(a, b)); break;
            case 4: case 5: same("local" + told, () -> mill.local(a, c), () -> model.local(a, c)); break;
            case 6: case 7: same("part" + told, () -> mill.part(a, c, b), () -> model.part(a, c, b)); break;
            case 8: same("method" + told, () -> mill.method(b, a), () -> model.method(b, a)); break;
            case 9: same("inlined" + told, () -> mill.inlined(b, a, c), () -> model.inlined(b, a, c)); break;
            case 10: same("profile" + told, () -> mill.profile(b, place, c), () -> model.profile(b, place, c)); break;
            case 11: same("log" + told, () -> mill.log(b, c), () -> model.log(b, c)); break;
            case 12: same("kind" + told, () -> mill.kind(b, place, c), () -> model.kind(b, place, c)); break;
            default: same("fault" + told, () -> mill.fault(a), () -> model.fault(a)); break;
        }
        int what = near(0, 9);
        same("total(" + what + ")", () -> mill.total(what), () -> model.total(what));
    }

    private void all() {
        while (left > 8) {
            switch (r.nextInt(24)) {
                case 0: newFile(); break;
                case 1: case 2: putRest(); load(); break;
                case 3: case 4: settings(); break;
                case 5: give(); break;
                case 6: case 7: start(); break;
                case 8: case 9: case 10: case 11: run(); break;
                case 12: if (r.nextInt(6) == 0) { runOn(); } break;
                case 13: put(r.nextLong(), near(1, 8)); break;
                case 14: if (r.nextInt(4) == 0) { load(); } break;
                default: look(); break;
            }
        }
    }

    public static void main(String[] args) {
        long first = args.length > 0 ? Long.parseLong(args[0]) : 1;
        long count = args.length > 1 ? Long.parseLong(args[1]) : 600;
        int wrong = 0;
        for (long seed = first; seed < first + count && wrong < 10; seed++) {
            try {
                new MonkeyTest(seed).all();
            } catch (RuntimeException e) {
                wrong++;
                System.out.println("seed " + seed + ": " + e);
            }
        }
        System.out.println("calls " + calls + ", refused " + refused + ", begun " + begun + ", ended " + ended
            + ", trapped " + trapped + ", without STEPS " + tired);
        if (wrong != 0) {
            System.exit(1);
        }
    }
}
