import java.util.LinkedHashMap;
import java.util.Map;
import java.util.Random;

/**
 * The document's first sentence, on FILES by chance and without the model: the same RUN with other TIERS, another room
 * and other numbers of STEPS at once must be seen alike, but for what is told of TIERS and of USED; and what a FRAME
 * has is always what the KINDS tell.
 */
final class SameTest {
    private static final int NO_KIND = 0, INT = 1, ARRAY = 2, NULL = 3, ANY = 15, REF = 16;
    private static final int NO_ROOM = 6;
    /** With what a RUN takes itself an object stays below 512 calls. */
    private static final int MOST_QUESTIONS = 100;
    private static final Check check = new Check();
    private static int loaded, compiled, inlined, guards, collected, withoutRoom, alike, slots;

    /** How a RUN is done. */
    private static final class Setting {
        int hot = 1000, samples = 1000, depth, size;
        int room = 4000;
        int atOnce = 2000;
    }

    private final Random r;
    private final int[] bytes;
    private final int steps;
    private final int argument;
    private final int usualInput;
    /** A FILE that makes objects by its input makes those of one class so often, then those of another one. */
    private final int inputsAlike;

    private SameTest(long seed) {
        r = new Random(seed * 0x9E3779B97F4A7C15L);
        bytes = seed % 2 == 0 ? new RandomFile(r).make() : new TierFile(r).make();
        steps = 1 + r.nextInt(r.nextInt(2) == 0 ? 900 : 200);
        argument = r.nextInt(20) - 2;
        usualInput = r.nextInt(4);
        inputsAlike = 3 + r.nextInt(6);
    }

    /** Null if it is no FILE. */
    private TierMill done(Setting how) {
        TierMill mill = new TierMill();
        if (bytes.length > 1500) {
            return null;
        }
        Filer.putAll(mill, bytes);
        if (Check.answered(mill::load) < 0) {
            return null;
        }
        mill.tiers(how.hot, how.samples, how.depth, how.size);
        mill.room(how.room);
        for (int i = 0; i < 12; i++) {
            mill.give(i < inputsAlike ? usualInput : usualInput + 1);
        }
        if (!mill.start(argument, 5, -6, 7)) {
            return null;
        }
        for (int left = steps; left > 0 && mill.state() == 1; left -= how.atOnce) {
            mill.run(Math.min(left, how.atOnce));
        }
        return mill;
    }

    private Setting another() {
        Setting how = new Setting();
        if (r.nextInt(8) > 0) {
            how.hot = 1 + r.nextInt(4);
            how.samples = 1 + r.nextInt(3);
            how.depth = r.nextInt(5);
            how.size = r.nextInt(3) == 0 ? r.nextInt(121) : 120;
        }
        if (r.nextInt(4) > 0) {
            how.room = 8 + r.nextInt(r.nextInt(2) == 0 ? 60 : 400);
        }
        how.atOnce = Math.max(steps / 30 + 1, 1 + r.nextInt(30));
        return how;
    }

    private static Map<String, Integer> seen(TierMill mill) {
        Map<String, Integer> all = new LinkedHashMap<>();
        all.put("state()", mill.state());
        all.put("result(0)", mill.result(0));
        all.put("result(1)", mill.result(1));
        for (int what : new int[] {0, 1, 2, 3, 6, 8}) {
            all.put("total(" + what + ")", mill.total(what));
        }
        int out = mill.total(2);
        for (int k = Math.max(0, out - 20); k < out; k++) {
            int kth = k;
            all.put("output(" + k + ")", Check.answered(() -> mill.output(kth)));
        }
        for (int k = 0; k < mill.total(3) && all.size() < MOST_QUESTIONS; k++) {
            for (int what : new int[] {0, 1, 3}) {
                all.put("frame(" + k + ", " + what + ")", mill.frame(k, what));
            }
            for (int i = 0; i < 8 && all.size() < MOST_QUESTIONS; i++) {
                seeSlot(all, mill, k, i);
                seeSlot(all, mill, k, 100 + i);
            }
        }
        return all;
    }

    private static void seeSlot(Map<String, Integer> all, TierMill mill, int k, int i) {
        all.put("local(" + k + ", " + i + ")", Check.answered(() -> mill.local(k, i)));
        int parts = Check.answered(() -> mill.part(k, i, 1));
        for (int what = 0; what < 2 + Math.min(parts, 6); what++) {
            int w = what;
            all.put("part(" + k + ", " + i + ", " + what + ")", Check.answered(() -> mill.part(k, i, w)));
        }
    }

    private static void count(TierMill mill) {
        int entries = Math.min(60, mill.total(4));
        for (int k = 0; k < entries; k++) {
            int which = mill.log(k, 0);
            compiled += which == 1 ? 1 : 0;
            inlined += which == 1 ? mill.log(k, 3) : 0;
            guards += which == 2 ? 1 : 0;
            collected += which == 3 ? 1 : 0;
        }
    }

    private void seenAlike(long seed) {
        check.says("whatever is compiled, each step does the same, and all is seen as if nothing were.");
        TierMill plain = done(new Setting());
        if (plain == null) {
            return;
        }
        loaded++;
        check.due("seed " + seed + ": nothing is COMPILED in the first one", 0, plain.total(7));
        Map<String, Integer> want = seen(plain);
        for (int turn = 0; turn < 4; turn++) {
            Setting how = another();
            TierMill mill = done(how);
            count(done(how));
            // A room that is too small ends the RUN; where it ends depends on it.
            if (mill.result(0) == NO_ROOM) {
                withoutRoom++;
            } else {
                alike++;
                Map<String, Integer> got = seen(mill);
                for (Map.Entry<String, Integer> call : want.entrySet()) {
                    check.due("seed " + seed + ", turn " + turn + ": " + call.getKey(), call.getValue(),
                        got.getOrDefault(call.getKey(), Check.ANOTHER));
                }
                check.due("seed " + seed + ", turn " + turn + ": as many are seen", want.size(), got.size());
            }
            kindsHold(seed, done(how));
        }
    }

    /** The latest two FRAMES: those of one that called are before its call. */
    private static void kindsHold(long seed, TierMill mill) {
        for (int k = 0; k < Math.min(2, mill.total(3)); k++) {
            int m = mill.frame(k, 0);
            int place = mill.frame(k, 1) - (k > 0 ? 2 : 0);
            int height = mill.frame(k, 3);
            for (int i = 0; i < 8; i++) {
                kindHolds("seed " + seed + ": ", mill, k, i, mill.kind(m, place, i));
                kindHolds("seed " + seed + ": ", mill, k, 100 + i, i < height ? mill.kind(m, place, 100 + i) : -1);
            }
        }
    }

    private static void kindHolds(String where, TierMill mill, int k, int i, int kind) {
        String what = where + "local(" + k + ", " + i + ") of KIND " + kind;
        int value = Check.answered(() -> mill.local(k, i));
        if (kind <= NO_KIND) {
            check.due(what, Check.NO_ELEMENT, value);
            return;
        }
        slots++;
        int its = Check.answered(() -> mill.part(k, i, 0));
        if (kind == INT || value == 0) {
            check.due(what + " has no parts", Check.NO_ELEMENT, its);
            return;
        }
        check.due(what + " is not null", false, kind == NULL);
        check.due(what + " has a NUMBER", true, value > 0 && value <= mill.total(6));
        check.due(what + " is an ARRAY", kind == ARRAY, its == 16);
        // A FILE by chance has each class ahead of those BELOW it.
        check.due(what + " is of class " + its, true, kind <= ANY || its >= kind - REF);
    }

    public static void main(String[] args) {
        long first = args.length > 0 ? Long.parseLong(args[0]) : 1;
        long count = args.length > 1 ? Long.parseLong(args[1]) : 1500;
        for (long seed = first; seed < first + count; seed++) {
            new SameTest(seed).seenAlike(seed);
        }
        System.out.println("FILES " + loaded + ", RUNS alike " + alike + ", without room " + withoutRoom
            + ", COMPILED " + compiled + ", INLINED " + inlined + ", GUARDS " + guards + ", COLLECTED " + collected
            + ", KINDS " + slots);
        boolean enough = compiled > count && inlined > count && guards > count / 100 && collected > count;
        check.due("enough was COMPILED, INLINED, COLLECTED, and GUARDS FAILED", true, enough || count < 1500);
        check.end();
    }
}
