import java.util.Arrays;

/** The edges of TIERS and of THE LOG: a test of its own for each sentence that names one. */
final class EdgeTierTest {
    private static final int INT = 1, REF = 16;
    private static final int PLAIN = 0, COMPILED = 1, INLINED = 2;
    private static final int[] NO_TYPES = {};
    private static final int[] ONE = {INT};
    private static final Check check = new Check();

    private static void logged(TierMill mill, String what, int k, int... entry) {
        for (int i = 0; i < entry.length; i++) {
            check.due(what + ": log(" + k + ", " + i + ")", entry[i], mill.log(k, i));
        }
    }

    private static void planned(TierMill mill, String what, int m, int[]... rows) {
        check.due(what + ": SITES", rows.length, mill.method(m, 2));
        for (int k = 0; k < rows.length; k++) {
            for (int i = 0; i < 5; i++) {
                check.due(what + ": inlined(" + m + ", " + k + ", " + i + ")", rows[k][i], mill.inlined(m, k, i));
            }
        }
        check.due(what + ": no SITE behind them", -1, mill.inlined(m, rows.length, 0));
    }

    private static int[] row(int... row) {
        return row;
    }

    private static int[] filled(int count, int value) {
        int[] all = new int[count];
        Arrays.fill(all, value);
        return all;
    }

    private static void runAll(TierMill mill, int steps) {
        for (int left = steps; left > 0; left -= 2000) {
            mill.run(Math.min(left, 2000));
        }
    }

    /** METHOD 0 calls METHOD 1 for ever: 2 STEPS besides those of the call. */
    private static Filer looping(int... called) {
        return new Filer().method(0, NO_TYPES, 0, 0, 47, 1, 21, 0).method(0, NO_TYPES, 0, 1, called);
    }

    // ---- COUNTS

    private static void hot() {
        check.says("its COUNT grows by 1; if it is HOT or more then, and the METHOD is not COMPILED, it is COMPILED");
        for (int hot : new int[] {1, 2, 3, 999, 1000}) {
            TierMill mill = looping(49).loaded();
            mill.tiers(hot, 1000, 0, 0);
            mill.start(0, 0, 0, 0);
            runAll(mill, 3 * (hot - 1));
            check.due("HOT " + hot + " less 1: COUNT", hot - 1, mill.method(1, 0));
            check.due("HOT " + hot + " less 1: COMPILED", 0, mill.method(1, 1));
            check.due("HOT " + hot + " less 1: METHOD 0", hot == 1 ? 1 : 0, mill.method(0, 1));
            mill.run(1);
            check.due("HOT " + hot + ": COUNT", hot, mill.method(1, 0));
            check.due("HOT " + hot + ": COMPILED", 1, mill.method(1, 1));
            check.due("HOT " + hot + ": FRAME", COMPILED, mill.frame(0, 2));
            logged(mill, "HOT " + hot, hot == 1 ? 1 : 0, 1, 3 * (hot - 1), 1, 0, 1);
            check.due("no more ENTRIES", -1, mill.log(hot == 1 ? 2 : 1, 0));
        }
        check.says("HOT or more then");
        TierMill mill = looping(49).loaded();
        mill.tiers(1000, 1000, 0, 0);
        mill.start(0, 0, 0, 0);
        mill.run(3 * 9);
        mill.tiers(4, 1000, 0, 0);
        check.due("tiers() itself COMPILES nothing", 0, mill.method(1, 1));
        mill.run(1);
        check.due("COUNT is above HOT", 10, mill.method(1, 0));
        check.due("COMPILED", 1, mill.method(1, 1));
        mill.tiers(1000, 1000, 0, 0);
        mill.run(3);
        check.due("it stays COMPILED, whatever HOT is", COMPILED, mill.frame(0, 2));
        check.due("one ENTRY", 1, mill.total(4));
    }

    private static void beginning() {
        check.says("as the beginning of a RUN is");
        TierMill mill = looping(49).loaded();
        mill.tiers(2, 1, 4, 120);
        mill.start(0, 0, 0, 0);
        check.due("COUNT", 1, mill.method(0, 0));
        check.due("PLAIN", PLAIN, mill.frame(0, 2));
        check.due("no ENTRY", 0, mill.total(4));
        mill.tiers(1, 1, 4, 120);
        mill.start(0, 0, 0, 0);
        check.due("COUNT of a new RUN", 1, mill.method(0, 0));
        check.due("COMPILED", COMPILED, mill.frame(0, 2));
        logged(mill, "the beginning", 0, 1, 0, 0, 0, 4);
        check.due("one ENTRY", 1, mill.total(4));
    }

    private static void behindTheProfile() {
        check.says("is (behind that) an INVOCATION of the METHOD");
        TierMill mill = new Filer().method(0, NO_TYPES, 0, 0, 47, 0, 49).loaded();
        mill.tiers(2, 1, 4, 120);
        mill.start(0, 0, 0, 0);
        mill.run(1);
        check.due("COUNT", 2, mill.method(0, 0));
        planned(mill, "the PROFILE counts first", 0, row(0, 0, 0, -1, 0), row(1, 0, 0, -1, 0), row(2, 0, 0, -1, 0),
            row(3, 0, 0, -1, 0));
        logged(mill, "the PROFILE counts first", 0, 1, 0, 0, 4, 15);
        mill = new Filer().cls(-1).sel(0).method(0, NO_TYPES, 0, 1, 38, 0, 47, 1, 49)
            .method(0, Filer.types(REF), 1, 1, 3, 0, 48, 0, 49).row(1).loaded();
        mill.tiers(2, 1, 2, 120);
        mill.start(0, 0, 0, 0);
        mill.run(4);
        planned(mill, "the PROFILE of 48 counts first", 1, row(0, 1, 2, 0, 1), row(1, 1, 2, 0, 1));
    }

    private static void onlyWithoutTrap() {
        check.says("(What a STEP counts here it counts only if there is no TRAP.)");
        TierMill mill = new Filer().method(0, NO_TYPES, 0, 0, 47, 0, 49).loaded();
        mill.tiers(65, 1, 0, 0);
        mill.start(0, 0, 0, 0);
        check.due("STEPS", 63, mill.run(2000));
        check.due("TRAP 7", 7, mill.result(0));
        check.due("PROFILE", 63, mill.profile(0, 0, 0));
        check.due("COUNT", 64, mill.method(0, 0));
        check.due("not COMPILED by the 65th", 0, mill.method(0, 1));
        check.due("no ENTRY", 0, mill.total(4));
        mill = new Filer().cls(-1).sel(0).method(0, NO_TYPES, 0, 1, 2, 46, 0, 48, 0, 49)
            .method(0, Filer.types(REF), 1, 0, 49).row(1).loaded();
        mill.start(0, 0, 0, 0);
        mill.run(9);
        check.due("TRAP 2", 2, mill.result(0));
        check.due("PROFILE of a 48 that traps", 0, mill.profile(0, 3, 0));
        check.due("COUNT of what it would call", 0, mill.method(1, 0));
    }

    // ---- jumps

    /** A jump with what makes it go on and what does not. */
    private static final int[][][] JUMPS = {
        {{22}, {0, 0}, {0, 1}}, {{23}, {0, 1}, {0, 0}}, {{24}, {0, 255}, {0, 0}}, {{25}, {0, 0}, {0, 255}},
        {{26}, {0, 1}, {0, 0}}, {{27}, {0, 0}, {0, 1}}, {{28}, {0, 1, 0, 1}, {0, 1, 0, 2}},
        {{29}, {0, 1, 0, 2}, {0, 1, 0, 1}}, {{30}, {0, 1, 0, 2}, {0, 2, 0, 2}}, {{31}, {0, 2, 0, 2}, {0, 1, 0, 2}},
        {{32}, {0, 2, 0, 1}, {0, 2, 0, 2}}, {{33}, {0, 2, 0, 2}, {0, 2, 0, 1}}, {{34}, {2}, {38, 0}},
        {{35}, {38, 0}, {2}}, {{36}, {2, 2}, {2, 38, 0}}, {{37}, {2, 38, 0}, {2, 2}}};

    private static int counted(int hot, int[] ahead, int[] jump) {
        TierMill mill = new Filer().cls(-1)
            .method(0, NO_TYPES, 0, 2, Filer.join(Filer.join(ahead, jump), new int[] {49})).loaded();
        mill.tiers(hot, 1, 0, 0);
        mill.start(0, 0, 0, 0);
        for (int i = 0; i < 4 && mill.frame(0, 1) != ahead.length; i++) {
            mill.run(1);
        }
        mill.run(1);
        return mill.method(0, 0);
    }

    private static void jumps() {
        check.says("with each jump of a PLAIN FRAME (21 .. 37, 53, if it goes on at a PLACE told by it) to a PLACE "
            + "that is not behind its own");
        for (int[][] jump : JUMPS) {
            int op = jump[0][0];
            check.due(op + " back", 2, counted(1000, jump[1], new int[] {op, 0}));
            check.due(op + " back of a COMPILED FRAME", 1, counted(1, jump[1], new int[] {op, 0}));
            check.due(op + " forward", 1, counted(1000, jump[1], new int[] {op, jump[1].length + 2}));
            check.due(op + " that does not go on", 1, counted(1000, jump[2], new int[] {op, 0}));
        }
        check.due("21 to its own PLACE", 2, counted(1000, new int[] {0, 1}, new int[] {21, 2}));
        check.due("21 to the PLACE behind it", 1, counted(1000, new int[] {0, 1}, new int[] {21, 4}));
        check.due("21 to PLACE 0 at PLACE 0", 2, counted(1000, new int[] {}, new int[] {21, 0}));
        check.due("21 to its own PLACE of a COMPILED FRAME", 1, counted(1, new int[] {0, 1}, new int[] {21, 2}));
        check.due("53 back by 0", 2, counted(1000, new int[] {0, 0}, new int[] {53, 1, 0, 6}));
        check.due("53 back by others", 2, counted(1000, new int[] {0, 1}, new int[] {53, 1, 6, 0}));
        check.due("53 forward by 0", 1, counted(1000, new int[] {0, 0}, new int[] {53, 1, 6, 0}));
        check.due("53 forward by others", 1, counted(1000, new int[] {0, 1}, new int[] {53, 1, 0, 6}));
        check.due("53 back of a COMPILED FRAME", 1, counted(1, new int[] {0, 0}, new int[] {53, 1, 0, 6}));
        check.due("a jump is no INVOCATION: nothing is COMPILED", 1000, compiledByJumps());
    }

    /** COUNT when 999 jumps have been done: it is HOT, but METHOD 0 is not COMPILED (else -1). */
    private static int compiledByJumps() {
        TierMill mill = new Filer().method(0, NO_TYPES, 0, 0, 21, 0).loaded();
        mill.start(0, 0, 0, 0);
        mill.run(999);
        return mill.method(0, 1) == 0 && mill.frame(0, 2) == PLAIN ? mill.method(0, 0) : -1;
    }

    /** METHOD 2 goes back three times within; it is INLINED in METHOD 1 from the third call on. */
    private static void inlinedJumps() {
        check.says("with each jump of a PLAIN FRAME");
        TierMill mill = looping(47, 2, 49)
            .method(0, NO_TYPES, 1, 1, 0, 3, 4, 0, 20, 0, 255, 3, 0, 26, 4, 49).loaded();
        mill.tiers(1000, 2, 1, 120);
        mill.start(0, 0, 0, 0);
        mill.run(2 * (4 + 12));
        check.due("INVOCATIONS and jumps of PLAIN FRAMES", 2 + 2 * 2, mill.method(2, 0));
        mill.tiers(3, 2, 1, 120);
        mill.run(4 + 12);
        check.due("METHOD 1 is COMPILED", 1, mill.method(1, 2));
        check.due("jumps of an INLINED FRAME do not count", 2 + 2 * 2, mill.method(2, 0));
        check.due("METHOD 2 is not COMPILED", 0, mill.method(2, 1));
    }

    // ---- PLANS

    private static void samples() {
        check.says("a 47 whose PROFILE is SAMPLES or more");
        for (int hot : new int[] {2, 3, 1000}) {
            for (int samples = Math.max(1, hot - 2); samples <= Math.min(hot, 1000); samples++) {
                TierMill mill = looping(47, 2, 49).method(0, NO_TYPES, 0, 0, 49).loaded();
                mill.tiers(hot, samples, 1, 120);
                mill.start(0, 0, 0, 0);
                // METHOD 2 may be COMPILED no sooner than METHOD 1, whose SITE has been counted once less than HOT.
                runAll(mill, 5 * (hot - 1) + 1);
                check.due("HOT " + hot + ": PROFILE", hot - 1, mill.profile(1, 0, 0));
                check.due("HOT " + hot + ", SAMPLES " + samples, hot - 1 >= samples ? 1 : 0, mill.method(1, 2));
                check.due("COMPILED", 1, mill.method(1, 1));
            }
        }
    }

    /** METHOD 0 sends to the object that the input tells, for ever, by METHOD 1; classes 1 and 2 are below class 0. */
    private static TierMill sending(int hot, int samples, int... inputs) {
        TierMill mill = new Filer().cls(-1).cls(0).cls(0).sel(0)
            .method(0, NO_TYPES, 0, 1,
                52, 53, 3, 7, 11, 15, 19,
                38, 0, 21, 22, 38, 1, 21, 22, 38, 2, 21, 22, 2, 46, 0,
                47, 1, 21, 0)
            .method(0, Filer.types(REF), 1, 1, 3, 0, 48, 0, 49)
            .method(0, Filer.types(REF), 1, 0, 49)
            .method(0, Filer.types(REF), 1, 0, 49)
            .row(2).row(-1).row(3).loaded();
        mill.tiers(hot, samples, 2, 120);
        for (int input : inputs) {
            mill.give(input);
        }
        mill.start(0, 0, 0, 0);
        return mill;
    }

    /** A round of it: 52, 53, 38, 21, 47, 3, 48, 49, 49, 21. */
    private static final int ROUND = 10;

    private static void guards() {
        check.says("and a 48 whose PROFILES together are, if just one class has one above 0 (its GUARD)");
        for (int c = 0; c < 3; c++) {
            TierMill mill = sending(4, 3, c, c, c, c);
            mill.run(3 * ROUND + 5);
            check.due("PROFILE of class " + c, 3, mill.profile(1, 2, c));
            planned(mill, "class " + c, 1, row(0, 1, 2, c, c == 2 ? 3 : 2));
            mill = sending(3, 3, c, c, c, c);
            mill.run(2 * ROUND + 5);
            planned(mill, "class " + c + " twice alone", 1);
        }
        for (int other = 0; other < 3; other++) {
            TierMill mill = sending(4, 3, other == 0 ? 1 : 0, other == 1 ? 1 : 0, other == 2 ? 1 : 0, 0);
            mill.run(3 * ROUND + 5);
            check.due("PROFILE of class 1", 1, mill.profile(1, 2, 1));
            planned(mill, "two classes, of which one came once", 1);
        }
        for (int first = 0; first < 3; first++) {
            for (int second = 0; second < 3; second++) {
                TierMill mill = sending(5, 3, first, second, second, second, 0);
                mill.run(4 * ROUND + 5);
                int called = first == 2 ? 3 : 2;
                if (first == second) {
                    planned(mill, "four times, above SAMPLES", 1, row(0, 1, 2, first, called));
                } else {
                    planned(mill, "once " + first + ", then three times " + second, 1);
                }
            }
        }
    }

    /** The GUARD's METHOD for SELECTORS 0 to 7, for class 1 and for what it inherits from class 0. */
    private static void guardOfSelector() {
        check.says("the METHOD that is called (of 48: by the GUARD)");
        for (int s = 0; s < 8; s++) {
            for (int c = 0; c < 2; c++) {
                Filer file = new Filer().cls(-1).cls(0);
                for (int k = 0; k < 8; k++) {
                    file.sel(0);
                }
                file.method(0, NO_TYPES, 0, 1, 38, c, 47, 1, 21, 0)
                    .method(0, Filer.types(REF), 1, 1, 3, 0, 48, s, 49);
                for (int m = 2; m < 16; m++) {
                    file.method(0, Filer.types(REF), 1, 0, 49);
                }
                TierMill mill = file.row(2, 3, 4, 5, 6, 7, 8, 9).row(10, -1, 11, 12, 13, 14, 15, -1).loaded();
                mill.tiers(3, 2, 2, 120);
                mill.start(0, 0, 0, 0);
                mill.run(2 * 7 + 2);
                int own = s == 0 ? 10 : s + 9;
                int called = c == 0 || s == 1 || s == 7 ? 2 + s : own;
                planned(mill, "SELECTOR " + s + " of class " + c, 1, row(0, 1, 2, c, called));
                mill.run(2);
                check.due("METHOD", called, mill.frame(0, 0));
                check.due("INLINED", INLINED, mill.frame(0, 2));
            }
        }
    }

    private static void profiles() {
        check.says("A 47, 48 that a PLAIN FRAME does counts 1 in the SITE's PROFILE (of 48 that of x's class).");
        TierMill mill = sending(1000, 1, 2, 1, 0, 1);
        int[][] want = {{0, 0, 1}, {0, 1, 1}, {1, 1, 1}, {1, 2, 1}};
        for (int round = 0; round < 4; round++) {
            mill.run(ROUND);
            for (int c = 0; c < 3; c++) {
                check.due("48: class " + c, want[round][c], mill.profile(1, 2, c));
            }
            check.due("47", round + 1, mill.profile(0, 22, 0));
        }
        check.says("Each 47, 48 is a SITE, with a PROFILE for each class (47: one).");
        check.due("a 47 has one", -1, mill.profile(0, 22, 1));
        check.due("a 48 has three", -1, mill.profile(1, 2, 3));
        check.due("no SITE", -1, mill.profile(1, 0, 0));
        TierMill both = new Filer().method(0, NO_TYPES, 0, 0, 47, 1, 47, 1, 21, 0).method(0, NO_TYPES, 0, 0, 49)
            .loaded();
        both.start(0, 0, 0, 0);
        both.run(3);
        check.due("two SITES of one METHOD: the first", 1, both.profile(0, 0, 0));
        check.due("two SITES of one METHOD: the second", 1, both.profile(0, 2, 0));
        both.run(3);
        check.due("the first one again", 2, both.profile(0, 0, 0));
        check.due("not yet the second one", 1, both.profile(0, 2, 0));
    }

    private static void invocations() {
        check.says("A call that a PLAIN FRAME does, or a COMPILED or INLINED one at a SITE that its PLAN has not "
            + "INLINED there");
        check.says("the new FRAME is COMPILED, if the METHOD is, else PLAIN");
        // METHOD 1 calls METHOD 2, which calls METHOD 3 (too large for SIZE): 1 is COMPILED, 2 INLINED, 3 is neither.
        TierMill mill = looping(47, 2, 49).method(0, NO_TYPES, 0, 0, 47, 3, 49)
            .method(0, NO_TYPES, 0, 0, 49, 49, 49, 49).loaded();
        mill.tiers(1000, 2, 4, 3);
        mill.start(0, 0, 0, 0);
        mill.run(2 * 7);
        mill.tiers(3, 2, 4, 3);
        mill.run(2);
        mill.tiers(1000, 2, 4, 3);
        mill.run(1);
        int[] tiers = {PLAIN, INLINED, COMPILED, PLAIN};
        for (int k = 0; k < 4; k++) {
            check.due("FRAME " + k, tiers[k], mill.frame(k, 2));
        }
        check.due("COUNT of METHOD 3, by an INLINED FRAME", 3, mill.method(3, 0));
        check.due("COUNT of METHOD 2", 2, mill.method(2, 0));
        check.due("an INLINED FRAME counts no PROFILE", 2, mill.profile(2, 0, 0));
        check.due("a COMPILED FRAME counts no PROFILE", 2, mill.profile(1, 0, 0));
        mill.tiers(4, 2, 0, 0);
        mill.run(4 + 3);
        check.due("METHOD 3 by an INLINED FRAME again", 4, mill.method(3, 0));
        check.due("COMPILED by it", COMPILED, mill.frame(0, 2));
        check.due("the INLINED one", INLINED, mill.frame(1, 2));
    }

    /** A PLAN's SITES by PLACES, also those that no way comes to any more: what was counted before counts. */
    private static void byPlaces() {
        check.says("its INSTRUCTIONS are gone through by PLACES (all of them)");
        // METHOD 1 jumps to PLACE 5 first, where it calls METHOD 3, then back to PLACE 2, where it calls METHOD 2.
        TierMill mill = looping(21, 5, 47, 2, 49, 47, 3, 21, 2).method(0, NO_TYPES, 0, 0, 49)
            .method(0, NO_TYPES, 0, 0, 49).loaded();
        mill.tiers(2, 1, 4, 120);
        mill.start(0, 0, 0, 0);
        mill.run(9 + 1);
        planned(mill, "by PLACES, not by the way", 1, row(0, 1, 2, -1, 2), row(0, 1, 5, -1, 3));
    }

    private static void depth() {
        check.says("if it is less than DEPTH deep (those of the METHOD itself are 0 deep)");
        for (int depth = 0; depth <= 4; depth++) {
            Filer file = looping(47, 2, 49);
            for (int m = 2; m < 7; m++) {
                file.method(0, NO_TYPES, 0, 0, 47, m + 1, 49);
            }
            TierMill mill = file.method(0, NO_TYPES, 0, 0, 49).loaded();
            mill.tiers(3, 2, depth, 120);
            mill.start(0, 0, 0, 0);
            mill.run(2 * 15 + 1);
            int[][] rows = new int[depth][];
            for (int d = 0; d < depth; d++) {
                rows[d] = row(d, d + 1, 0, -1, d + 2);
            }
            planned(mill, "DEPTH " + depth, 1, rows);
            logged(mill, "DEPTH " + depth, 0, 1, 30, 1, depth, 3 + 3 * depth);
            mill.run(6);
            // What is too deep for the PLAN of METHOD 1 is COMPILED in its turn, with a PLAN as deep.
            for (int k = 0; k < 7; k++) {
                int tier = (6 - k) % (depth + 1) == 0 ? COMPILED : INLINED;
                check.due("DEPTH " + depth + ": FRAME of METHOD " + (7 - k), tier, mill.frame(k, 2));
            }
            check.due("METHOD " + (depth + 2) + " is called by an INVOCATION", 3, mill.method(depth + 2, 0));
            check.due("METHOD 1", 3, mill.method(1, 0));
            check.due("METHOD 2", depth == 0 ? 3 : 2, mill.method(2, 0));
        }
    }

    /** How many SITES of METHOD 1 are INLINED, which calls these METHODS (of so many bytes) one after the other. */
    private static void sized(String what, int size, int[] lengths, int[] order, int... inlined) {
        int[] code = {};
        for (int m : order) {
            code = Filer.join(code, new int[] {47, 2 + m});
        }
        Filer file = looping(Filer.join(code, new int[] {49}));
        for (int length : lengths) {
            file.method(0, NO_TYPES, 0, 0, filled(length, 49));
        }
        TierMill mill = file.loaded();
        mill.tiers(2, 1, 1, size);
        mill.start(0, 0, 0, 0);
        mill.run(2 * order.length + 3 + 1);
        int[][] rows = new int[inlined.length][];
        int bytes = 2 * order.length + 1;
        for (int i = 0; i < inlined.length; i++) {
            rows[i] = row(0, 1, 2 * inlined[i], -1, 2 + order[inlined[i]]);
            bytes += lengths[order[inlined[i]]];
        }
        planned(mill, what, 1, rows);
        int last = mill.total(4) - 1;
        logged(mill, what, last, 1, 2 * order.length + 3, 1, inlined.length, bytes);
    }

    private static void size() {
        check.says("the METHOD that is called (of 48: by the GUARD) has at most SIZE bytes of CODE");
        for (int size : new int[] {1, 2, 40, 119, 120}) {
            sized("as many bytes as SIZE " + size, size, row(size), row(0), 0);
        }
        for (int size : new int[] {0, 1, 39, 40, 118, 119}) {
            sized("one more than SIZE " + size, size, row(size + 1), row(0));
        }
        for (int size = 0; size <= 3; size++) {
            TierMill mill = new Filer().cls(-1).cls(-1).sel(0)
                .method(0, NO_TYPES, 0, 1, 38, 1, 47, 1, 21, 0)
                .method(0, Filer.types(REF + 1), 1, 1, 3, 0, 48, 0, 49)
                .method(0, Filer.types(REF), 1, 0, 49)
                .method(0, Filer.types(REF + 1), 1, 0, 49, 49).row(2).row(3).loaded();
            mill.tiers(2, 1, 1, size);
            mill.start(0, 0, 0, 0);
            mill.run(7 + 2);
            check.due("COMPILED", 1, mill.method(1, 1));
            check.due("2 bytes by the GUARD, SIZE " + size, size >= 2 ? 1 : 0, mill.method(1, 2));
        }
    }

    private static void together() {
        check.says("and with it all INLINED ones of this PLAN have at most 300 together");
        sized("300", 120, row(100), row(0, 0, 0), 0, 1, 2);
        sized("300 by two METHODS", 120, row(120, 60), row(0, 0, 1), 0, 1, 2);
        sized("301", 120, row(120, 61), row(0, 0, 1), 0, 1);
        sized("300 and 1", 120, row(100, 1), row(0, 0, 0, 1), 0, 1, 2);
        sized("299 and 1", 120, row(120, 59, 1), row(0, 0, 1, 2, 2), 0, 1, 2, 3);
        check.says("smaller ones may be INLINED behind one that is too large");
        sized("290 and 100 and 10", 120, row(100, 90, 10), row(0, 0, 1, 0, 2, 2), 0, 1, 2, 4);
        sized("too large for SIZE, too", 99, row(100, 90, 10), row(0, 1, 1, 1, 1, 2), 1, 2, 3, 5);
        check.says("(without the METHOD's own;");
        int[] own = Filer.join(new int[] {47, 2, 47, 2, 47, 2}, filled(114, 49));
        TierMill mill = looping(own).method(0, NO_TYPES, 0, 0, filled(100, 49)).loaded();
        mill.tiers(2, 1, 1, 120);
        mill.start(0, 0, 0, 0);
        mill.run(10);
        check.due("120 of its own and 300", 3, mill.method(1, 2));
        check.due("bytes in the LOG", 420, mill.log(mill.total(4) - 1, 4));
    }

    /** METHOD 1 calls 2 and 3; 2 calls 3 and 4, 3 calls 4. */
    private static Filer branching(int length) {
        int[] rest = filled(length, 49);
        return looping(47, 2, 47, 3, 49)
            .method(0, NO_TYPES, 0, 0, Filer.join(new int[] {47, 3, 47, 4}, rest))
            .method(0, NO_TYPES, 0, 0, Filer.join(new int[] {47, 4}, rest))
            .method(0, NO_TYPES, 0, 0, rest);
    }

    private static void atOnce() {
        check.says("then that METHOD's INSTRUCTIONS are gone through likewise at once, one deeper; then it goes on "
            + "behind the SITE");
        TierMill mill = branching(1).loaded();
        mill.tiers(2, 1, 3, 120);
        mill.start(0, 0, 0, 0);
        for (int i = 0; i < 40 && mill.method(1, 1) == 0; i++) {
            mill.run(1);
        }
        planned(mill, "all", 1, row(0, 1, 0, -1, 2), row(1, 2, 0, -1, 3), row(2, 3, 0, -1, 4), row(1, 2, 2, -1, 4),
            row(0, 1, 2, -1, 3), row(1, 3, 0, -1, 4));
        check.says("(So a SITE may be INLINED several times, at different depths, and a METHOD in itself.)");
        check.due("the SITE of METHOD 3 at depth 2", 2, mill.inlined(1, 2, 0));
        check.due("the SITE of METHOD 3 at depth 1", 1, mill.inlined(1, 5, 0));
        allInlined(mill, 2, 3, 4, 4, 3, 4);
        // 84, 82 and 80 bytes: 2, then 3 and 4 within it; there is no room for 4 and 3 then: the deeper ones come first.
        mill = branching(80).loaded();
        mill.tiers(2, 1, 3, 120);
        mill.start(0, 0, 0, 0);
        for (int i = 0; i < 40 && mill.method(1, 1) == 0; i++) {
            mill.run(1);
        }
        planned(mill, "300", 1, row(0, 1, 0, -1, 2), row(1, 2, 0, -1, 3), row(2, 3, 0, -1, 4));
        logged(mill, "300", mill.total(4) - 1, 1, mill.total(0) - 1, 1, 3, 5 + 84 + 82 + 80);
        check.says("A call at a SITE that is INLINED there (in the COMPILED FRAME's METHOD, or in what the FRAME is "
            + "INLINED for)");
        check.due("FRAME", COMPILED, mill.frame(0, 2));
        int[][] walk = {{2, INLINED}, {3, INLINED}, {4, INLINED}};
        for (int[] w : walk) {
            mill.run(1);
            check.due("METHOD", w[0], mill.frame(0, 0));
            check.due("its FRAME", w[1], mill.frame(0, 2));
        }
        int count = mill.method(4, 0);
        mill.run(3);
        check.due("METHOD 4 at the SITE that is not INLINED there", 4, mill.frame(0, 0));
        check.due("is called by an INVOCATION", count + 1, mill.method(4, 0));
        check.due("with a FRAME of its own", COMPILED, mill.frame(0, 2));
    }

    /** The calls that come next are of these METHODS, all INLINED. */
    private static void allInlined(TierMill mill, int... methods) {
        for (int m : methods) {
            for (int i = 0, before = mill.total(3); i < 9 && mill.total(3) <= before; i++) {
                before = mill.total(3);
                mill.run(1);
            }
            check.due("METHOD", m, mill.frame(0, 0));
            check.due("METHOD " + m + " is INLINED", INLINED, mill.frame(0, 2));
        }
    }

    /** One SITE after the other, each with a METHOD of its own: all are INLINED, and each call finds its own. */
    private static void siblings() {
        check.says("A call at a SITE that is INLINED there");
        TierMill mill = looping(47, 2, 47, 3, 47, 2, 47, 4, 49).method(0, NO_TYPES, 0, 0, 49)
            .method(0, NO_TYPES, 0, 0, 47, 2, 47, 4, 49).method(0, NO_TYPES, 0, 0, 49).loaded();
        mill.tiers(1000, 2, 2, 120);
        mill.start(0, 0, 0, 0);
        mill.run(2 * 15);
        mill.tiers(3, 2, 2, 120);
        mill.run(1);
        planned(mill, "METHOD 1", 1, row(0, 1, 0, -1, 2), row(0, 1, 2, -1, 3), row(1, 3, 0, -1, 2),
            row(1, 3, 2, -1, 4), row(0, 1, 4, -1, 2), row(0, 1, 6, -1, 4));
        allInlined(mill, 2, 3, 2, 4, 2, 4);
        check.due("no INVOCATIONS", 6, mill.method(2, 0));
    }

    /** Eight classes; both SITES of METHOD 1 see class 7, or class 0. */
    private static void eightClasses() {
        check.says("if just one class has one above 0 (its GUARD)");
        for (int c = 0; c < 8; c++) {
            Filer file = new Filer().cls(-1);
            for (int k = 1; k < 8; k++) {
                file.cls(0);
            }
            file.sel(0).method(0, NO_TYPES, 0, 1, 38, c, 47, 1, 21, 0)
                .method(0, Filer.types(REF), 1, 1, 3, 0, 48, 0, 3, 0, 48, 0, 49)
                .method(0, Filer.types(REF), 1, 0, 49).row(2);
            for (int k = 1; k < 8; k++) {
                file.row(-1);
            }
            TierMill mill = file.loaded();
            mill.tiers(3, 2, 2, 120);
            mill.start(0, 0, 0, 0);
            mill.run(2 * 10 + 2);
            planned(mill, "class " + c, 1, row(0, 1, 2, c, 2), row(0, 1, 6, c, 2));
            check.due("PROFILE of class " + c, 2, mill.profile(1, 6, c));
            check.due("PROFILE of class " + (7 - c), 0, mill.profile(1, 6, 7 - c));
            check.due("no PROFILE of class 8", -1, mill.profile(1, 6, 8));
        }
    }

    /** As many SITES as a FILE may have, three times: each has its own PROFILE. */
    private static void mostSites() {
        check.says("Each 47, 48 is a SITE");
        int[] calls = new int[120];
        for (int i = 0; i < 118; i += 2) {
            calls[i] = 47;
            calls[i + 1] = 11;
        }
        calls[118] = 49;
        calls[119] = 49;
        Filer file = new Filer().method(0, NO_TYPES, 0, 0, 47, 1, 47, 10, 21, 0);
        for (int m = 1; m < 11; m++) {
            file.method(0, NO_TYPES, 0, 0, calls);
        }
        file.method(0, NO_TYPES, 0, 0, 49);
        TierMill mill = new TierMill();
        for (int load = 0; load < 5; load++) {
            file.loadInto(mill);
            mill.tiers(load < 4 ? 1000 : 3, 1, 1, 120);
            mill.start(0, 0, 0, 0);
            check.due("the last SITE's PROFILE at first", 0, mill.profile(10, 116, 0));
            mill.run(2 * (2 + 2 * 59) + 1);
            check.due("the first SITE", 1, mill.profile(1, 0, 0));
            check.due("the last SITE", 1, mill.profile(10, 116, 0));
            check.due("a SITE that was not come to", 0, mill.profile(9, 116, 0));
            mill.start(0, 0, 0, 0);
            check.due("a new RUN: the first SITE", 0, mill.profile(1, 0, 0));
            check.due("a new RUN: the last SITE", 0, mill.profile(10, 116, 0));
        }
        mill.tiers(3, 1, 1, 120);
        mill.start(0, 0, 0, 0);
        mill.run(2 * (2 * 59 + 2 + 2 * 59 + 2 + 1) + 1);
        check.due("59 SITES are INLINED", 59, mill.method(1, 2));
        check.due("the first one's PLACE", 0, mill.inlined(1, 0, 2));
        check.due("the last one's PLACE", 116, mill.inlined(1, 58, 2));
        check.due("no SITE 59", -1, mill.inlined(1, 59, 2));
        mill.run(2 * 58 + 1);
        check.due("the last one is INLINED", INLINED, mill.frame(0, 2));
        check.due("it is METHOD 11", 11, mill.frame(0, 0));
    }

    private static void thirty() {
        check.says("(as long as not 30 have been in all RUNS)");
        int[] code = {};
        for (int m = 1; m < 16; m++) {
            code = Filer.join(code, new int[] {47, m});
        }
        Filer file = new Filer().method(0, NO_TYPES, 0, 0, Filer.join(code, new int[] {49}));
        for (int m = 1; m < 16; m++) {
            file.method(0, NO_TYPES, 0, 0, 49);
        }
        TierMill mill = file.loaded();
        mill.tiers(1, 1, 0, 0);
        mill.start(0, 0, 0, 0);
        mill.run(100);
        check.due("16 in the first RUN", 16, mill.total(7));
        file.loadInto(mill);
        check.due("16 whatever FILES there were", 16, mill.total(7));
        mill.start(0, 0, 0, 0);
        mill.run(100);
        check.due("30 in two RUNS", 30, mill.total(7));
        check.due("14 ENTRIES", 14, mill.total(4));
        for (int m = 0; m < 16; m++) {
            check.due("METHOD " + m, m < 14 ? 1 : 0, mill.method(m, 1));
            check.due("COUNT of METHOD " + m, 1, mill.method(m, 0));
        }
        mill.start(0, 0, 0, 0);
        check.due("PLAIN", PLAIN, mill.frame(0, 2));
        mill.run(1);
        check.due("its PROFILE counts", 1, mill.profile(0, 0, 0));
        check.due("no ENTRY", 0, mill.total(4));
    }

    // ---- INLINED FRAMES and GUARDS

    private static void inlinedCalls() {
        check.says("makes an INLINED FRAME within the COMPILED one; it is no INVOCATION");
        TierMill mill = sending(3, 2, 0, 0, 0, 0);
        mill.run(2 * ROUND + 7);
        check.due("INLINED", INLINED, mill.frame(0, 2));
        check.due("METHOD 2", 2, mill.frame(0, 0));
        check.due("within a COMPILED one", COMPILED, mill.frame(1, 2));
        check.due("COUNT of METHOD 2", 2, mill.method(2, 0));
        check.due("PROFILE", 2, mill.profile(1, 2, 0));
        check.due("two FRAMES besides", 3, mill.total(3));
    }

    private static void guardFails() {
        check.says("But if x of a 48 is an object of another class than the GUARD");
        for (int other = 1; other <= 2; other++) {
            TierMill mill = sending(3, 2, 0, 0, 0, other);
            mill.run(3 * ROUND + 6);
            check.due("one ENTRY", 1, mill.total(4));
            check.due("COMPILED", COMPILED, mill.frame(0, 2));
            int made = mill.total(7);
            mill.run(1);
            check.due("in the same STEP", 3 * ROUND + 7, mill.total(0));
            logged(mill, "class " + other, 1, 2, 3 * ROUND + 6, 1, 1, 2);
            check.due("METHOD", other == 2 ? 3 : 2, mill.frame(0, 0));
            check.due("the COMPILED FRAME becomes PLAIN", PLAIN, mill.frame(1, 2));
            check.due("METHOD 1 is COMPILED no more", 0, mill.method(1, 1));
            check.due("its COUNT is 0", 0, mill.method(1, 0));
            check.due("it has no PLAN", 0, mill.method(1, 2));
            check.due("it counts in the PROFILE", 1, mill.profile(1, 2, other));
            check.due("it is an INVOCATION", other == 2 ? 1 : 3, mill.method(other == 2 ? 3 : 2, 0));
            check.due("METHOD 2 is HOT by it", other == 2 ? made : made + 1, mill.total(7));
            check.due("ENTRIES", other == 2 ? 2 : 3, mill.total(4));
        }
        check.says("(behind TRAPS 2 and 7)");
        TierMill mill = sending(3, 2, 0, 0, 0, 3);
        mill.run(2000);
        check.due("TRAP 2", 2, mill.result(0));
        check.due("no GUARD FAILS", 1, mill.total(4));
        check.due("COMPILED yet", 1, mill.method(1, 1));
        check.due("a COMPILED FRAME yet", COMPILED, mill.frame(0, 2));
    }

    /**
     * METHOD 1 (REF 0, INT) calls itself with INT - 1 until that is 0, then sends to its REF. METHOD 0 does so with an
     * object of class 0 and 0 three times, then with one of class 1 and its own INT.
     */
    private static TierMill bottom(int deep) {
        TierMill mill = new Filer().cls(-1).cls(0).sel(0)
            .method(0, ONE, 1, 2,
                38, 0, 0, 0, 47, 1, 38, 0, 0, 0, 47, 1, 38, 0, 0, 0, 47, 1, 38, 1, 3, 0, 47, 1, 49)
            .method(0, Filer.types(REF, INT), 2, 2,
                3, 1, 23, 9, 3, 0, 48, 0, 49, 3, 0, 20, 1, 255, 3, 1, 47, 1, 49)
            .method(0, Filer.types(REF), 1, 0, 49)
            .row(2).row(-1).loaded();
        mill.tiers(3, 2, 1, 40);
        mill.start(deep, 0, 0, 0);
        return mill;
    }

    private static void guardAndFrames() {
        check.says("(behind TRAPS 2 and 7)");
        TierMill mill = bottom(62);
        mill.run(2000);
        check.due("TRAP 7", 7, mill.result(0));
        check.due("64 FRAMES", 64, mill.total(3));
        check.due("no GUARD FAILS", 1, mill.total(4));
        check.due("COMPILED yet", 1, mill.method(1, 1));
        check.due("no PROFILE of class 1", 0, mill.profile(1, 6, 1));
        mill = bottom(61);
        mill.run(2000);
        check.due("with 63 FRAMES it ENDS", 2, mill.state());
        check.due("the GUARD FAILED", 2, mill.log(1, 0));
        check.says("the COMPILED FRAME and those INLINED within it become PLAIN");
        mill = bottom(2);
        mill.run(3 * 9 + 3 + 2 * 6 + 3 + 1);
        int[] tiers = {COMPILED, PLAIN, COMPILED, COMPILED, PLAIN};
        for (int k = 0; k < 5; k++) {
            check.due("FRAME " + k, tiers[k], mill.frame(k, 2));
        }
        check.due("METHOD 2", 2, mill.frame(0, 0));
        check.due("PROFILE of class 1", 1, mill.profile(1, 6, 1));
    }

    /** METHOD 1 hands its object on to METHOD 2, and so on; the last one of them sends to it: all are in one PLAN. */
    private static TierMill handedOn(int deep) {
        Filer file = new Filer().cls(-1).cls(0).sel(0)
            .method(0, NO_TYPES, 0, 1, 38, 0, 47, 1, 38, 0, 47, 1, 38, 0, 47, 1, 38, 1, 47, 1, 49);
        for (int m = 1; m <= deep; m++) {
            file.method(0, Filer.types(REF), 1, 1, 3, 0, m < deep ? 47 : 48, m < deep ? m + 1 : 0, 49);
        }
        TierMill mill = file.method(0, Filer.types(REF), 1, 0, 49).row(deep + 1).row(-1).loaded();
        mill.tiers(3, 2, 4, 120);
        mill.start(0, 0, 0, 0);
        return mill;
    }

    private static void guardDeepWithin() {
        check.says("the COMPILED FRAME and those INLINED within it become PLAIN");
        for (int deep = 1; deep <= 4; deep++) {
            TierMill mill = handedOn(deep);
            mill.run(3 * (2 + 3 * deep + 1) + 2 + 2 * (deep - 1) + 1);
            check.due("METHOD " + deep, deep, mill.frame(0, 0));
            for (int k = 0; k < deep; k++) {
                check.due("ahead of it: FRAME " + k, k == deep - 1 ? COMPILED : INLINED, mill.frame(k, 2));
            }
            mill.run(1);
            logged(mill, "the GUARD", 1, 2, mill.total(0) - 1, 1, deep, 2);
            check.due("the METHOD that is called is HOT", COMPILED, mill.frame(0, 2));
            for (int k = 1; k <= deep + 1; k++) {
                check.due("FRAME " + k, PLAIN, mill.frame(k, 2));
            }
            check.due("METHOD 1", 0, mill.method(1, 1));
            check.due("its COUNT", 0, mill.method(1, 0));
            check.due("COUNT of METHOD " + deep, deep == 1 ? 0 : 2, mill.method(deep, 0));
            check.due("PROFILE of class 1", 1, mill.profile(deep, 2, 1));
        }
    }

    /** The METHOD that is called by the GUARD that FAILS is the very one whose PLAN is given up. */
    private static void anewAtOnce() {
        check.says("it is so no more, and its COUNT is 0; then the call is done as by a PLAIN FRAME, in the same STEP");
        TierMill mill = new Filer().cls(-1).cls(0).sel(0)
            .method(0, NO_TYPES, 0, 1, 38, 0, 47, 1, 38, 0, 47, 1, 38, 0, 47, 1, 38, 1, 47, 1, 49)
            .method(0, Filer.types(REF), 1, 1, 52, 22, 7, 3, 0, 48, 0, 49)
            .row(1).row(-1).loaded();
        for (int input : new int[] {1, 0, 1, 0, 0, 1, 0}) {
            mill.give(input);
        }
        mill.tiers(4, 2, 1, 40);
        mill.start(0, 0, 0, 0);
        mill.run(2 * 10);
        check.due("four INVOCATIONS", 4, mill.method(1, 0));
        check.due("COMPILED by the fourth", 1, mill.method(1, 1));
        check.due("with its own SITE", 1, mill.method(1, 2));
        mill.run(2 + 3);
        check.due("the fifth", 5, mill.method(1, 0));
        mill.tiers(1, 2, 1, 40);
        mill.run(2 + 3);
        check.due("at the GUARD", 5, mill.frame(0, 1));
        check.due("the sixth", 6, mill.method(1, 0));
        int steps = mill.total(0);
        int entries = mill.total(4);
        mill.run(1);
        check.due("COUNT is 0, then 1", 1, mill.method(1, 0));
        logged(mill, "the GUARD", entries, 2, steps, 1, 1, 5);
        logged(mill, "COMPILED anew", entries + 1, 1, steps, 1, 0, 8);
        check.due("no more ENTRIES", entries + 2, mill.total(4));
        check.due("COMPILED", 1, mill.method(1, 1));
        check.due("without the SITE of two classes", 0, mill.method(1, 2));
        check.due("the new FRAME", COMPILED, mill.frame(0, 2));
        check.due("the old one", PLAIN, mill.frame(1, 2));
    }

    /**
     * METHOD 1 (REF, INT) calls itself with INT - 1 unless it is 0; it sends to its REF; if the input is not 0, it calls
     * itself with a new object of class 0. METHOD 0 does so with class 0 and 0 twice, then with class 1 and 2.
     */
    private static TierMill three(int input) {
        TierMill mill = new Filer().cls(-1).cls(0).sel(0)
            .method(0, NO_TYPES, 0, 2, 38, 0, 0, 0, 47, 1, 38, 0, 0, 0, 47, 1, 38, 1, 0, 2, 47, 1, 49)
            .method(0, Filer.types(REF, INT), 2, 3,
                3, 1, 22, 13, 3, 0, 3, 1, 0, 1, 9, 47, 1, 3, 0, 48, 0, 52, 22, 26, 38, 0, 0, 0, 47, 1, 49)
            .method(0, Filer.types(REF), 1, 0, 49)
            .row(2).row(-1).loaded();
        mill.tiers(3, 2, 1, 40);
        mill.start(0, 0, 0, 0);
        mill.run(2 * 11);
        mill.give(input);
        mill.run(3 + 2 * 7 + 3);
        planned(mill, "METHOD 1", 1, row(0, 1, 15, 0, 2));
        for (int k = 0; k < 3; k++) {
            check.due("three FRAMES with this PLAN", COMPILED, mill.frame(k, 2));
        }
        mill.run(1);
        check.due("the first GUARD FAILED", 2, mill.log(1, 0));
        check.due("not COMPILED any more", 0, mill.method(1, 1));
        check.due("COUNT is 0", 0, mill.method(1, 0));
        check.due("this FRAME is PLAIN", PLAIN, mill.frame(1, 2));
        return mill;
    }

    /** The next FRAME, with the same PLAN, sends to the object of class 1 in its turn. */
    private static void secondGuard(TierMill mill, int steps, int count, int compiled) {
        mill.run(steps);
        check.due("at its 48", 15, mill.frame(0, 1));
        check.due("COUNT ahead of it", count, mill.method(1, 0));
        int entries = mill.total(4);
        int profile = mill.profile(1, 15, 1);
        check.says("A FRAME is PLAIN, COMPILED (with a PLAN, which it keeps), or INLINED.");
        check.due("the next FRAME keeps its PLAN", COMPILED, mill.frame(0, 2));
        mill.run(1);
        check.due("by which its GUARD FAILS", 2, mill.log(entries, 0));
        check.due("METHOD of the COMPILED FRAME", 1, mill.log(entries, 2));
        check.due("it becomes PLAIN", PLAIN, mill.frame(1, 2));
        check.due("the last one is COMPILED yet", COMPILED, mill.frame(2, 2));
        check.says("if its METHOD is COMPILED with this same PLAN yet");
        check.due("COUNT stays", count, mill.method(1, 0));
        check.due("COMPILED stays", compiled, mill.method(1, 1));
        check.says("(it counts in the PROFILE, is an INVOCATION; a METHOD that was COMPILED anew meanwhile, with "
            + "another PLAN, stays so, with its COUNT)");
        check.due("it counts in the PROFILE", profile + 1, mill.profile(1, 15, 1));
        check.due("one ENTRY", entries + 1, mill.total(4));
    }

    private static void oldPlans() {
        secondGuard(three(0), 4 + 1, 0, 0);
        secondGuard(three(1), 1 + 2 + 3 + 8 + 1 + 1, 1, 0);
        TierMill mill = three(1);
        mill.tiers(1, 2, 1, 40);
        mill.run(1 + 2 + 3);
        check.due("COMPILED anew", 1, mill.method(1, 1));
        check.due("its new FRAME", COMPILED, mill.frame(0, 2));
        planned(mill, "of two classes none is INLINED", 1);
        secondGuard(mill, 8 + 1 + 1, 1, 1);
        planned(mill, "it keeps its new PLAN", 1);
    }

    // ---- THE LOG

    private static void fullLog() {
        check.says("THE LOG of a RUN has, in order, its first 300 ENTRIES");
        TierMill mill = new Filer().method(0, ONE, 1, 1, 0, 6, 41, 5, 20, 0, 255, 3, 0, 26, 0, 47, 1, 47, 1, 47, 1, 49)
            .method(0, NO_TYPES, 0, 0, 49).loaded();
        mill.room(8);
        for (int rounds = 300; rounds <= 302; rounds++) {
            mill.start(rounds, 0, 0, 0);
            runAll(mill, 6 * rounds + 5);
            check.due("ENTRIES of " + rounds + " rounds", Math.min(300, rounds - 1 + 1), mill.total(4));
            check.due("COMPILED, whether it is in the LOG or not", 1, mill.method(1, 1));
            check.due("the last ENTRY", rounds == 300 ? 1 : 3, mill.log(299, 0));
            check.due("the first ENTRY", 3, mill.log(0, 0));
            check.due("its STEPS", 6 + 1, mill.log(0, 1));
            check.due("the last ENTRY's STEPS", rounds == 300 ? 6 * rounds + 4 : 6 * 300 + 1, mill.log(299, 1));
            check.due("no ENTRY 300", -1, mill.log(300, 0));
        }
        check.due("three METHODS were COMPILED", 3, mill.total(7));
        mill.start(1, 0, 0, 0);
        check.due("a new RUN's LOG is empty", 0, mill.total(4));
    }

    /** METHOD 0 calls METHOD 1 and itself: it is COMPILED as any other one is, with what is INLINED in it. */
    private static void ofMethod0() {
        check.says("A call at a SITE that is INLINED there (in the COMPILED FRAME's METHOD, or in what the FRAME is "
            + "INLINED for) makes an INLINED FRAME within the COMPILED one; it is no INVOCATION.");
        TierMill mill = new Filer()
            .method(0, ONE, 1, 2, 3, 0, 27, 13, 47, 1, 3, 0, 0, 255, 8, 47, 0, 49)
            .method(0, NO_TYPES, 0, 0, 49).loaded();
        mill.tiers(2, 1, 1, 120);
        mill.start(5, 0, 0, 0);
        mill.run(8);
        planned(mill, "METHOD 0", 0, row(0, 0, 4, -1, 1), row(0, 0, 11, -1, 0));
        logged(mill, "METHOD 0", 0, 1, 7, 0, 2, 14 + 1 + 14);
        tiers(mill, "it calls itself", COMPILED, PLAIN);
        mill.run(3);
        tiers(mill, "it calls METHOD 1", INLINED, COMPILED, PLAIN);
        check.due("METHOD 1's COUNT", 1, mill.method(1, 0));
        mill.run(5);
        tiers(mill, "it calls itself again", INLINED, COMPILED, PLAIN);
        check.due("the latest FRAME's METHOD", 0, mill.frame(0, 0));
        check.due("METHOD 0's COUNT", 2, mill.method(0, 0));
        mill.run(3);
        tiers(mill, "it calls METHOD 1 where that is not INLINED", COMPILED, INLINED, COMPILED, PLAIN);
        check.due("METHOD 1's COUNT then", 2, mill.method(1, 0));
        check.due("PROFILE", 1, mill.profile(0, 4, 0));
    }

    private static void tiers(TierMill mill, String what, int... tiers) {
        check.due(what + ": FRAMES", tiers.length, mill.total(3));
        for (int k = 0; k < tiers.length; k++) {
            check.due(what + ": frame(" + k + ", 2)", tiers[k], mill.frame(k, 2));
        }
    }

    private static void stepsOfTheRun() {
        check.says("how many STEPS of the RUN had been done (ahead of the one in which it comes; ENTRY 3 comes with a "
            + "TRAP 6, too)");
        TierMill mill = new Filer().method(0, ONE, 1, 1, 3, 0, 41, 5, 49).loaded();
        mill.room(8);
        mill.start(6, 0, 0, 0);
        mill.run(9);
        check.due("no ENTRY", 0, mill.total(4));
        mill.start(7, 0, 0, 0);
        check.due("one STEP, then TRAP 6", 1, mill.run(9));
        logged(mill, "TRAP 6", 0, 3, 1, 0, 0, 0);
        check.due("of this RUN, not of all", 5, mill.total(1));
    }

    public static void main(String[] args) {
        hot();
        beginning();
        behindTheProfile();
        onlyWithoutTrap();
        jumps();
        inlinedJumps();
        samples();
        guards();
        guardOfSelector();
        profiles();
        invocations();
        byPlaces();
        depth();
        size();
        together();
        atOnce();
        siblings();
        eightClasses();
        mostSites();
        thirty();
        inlinedCalls();
        guardFails();
        guardAndFrames();
        guardDeepWithin();
        anewAtOnce();
        oldPlans();
        fullLog();
        ofMethod0();
        stepsOfTheRun();
        check.end();
    }
}
