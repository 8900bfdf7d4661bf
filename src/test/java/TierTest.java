/** COUNTS, PROFILES, PLANS, GUARDS and THE LOG: promises 6, 17 to 20. */
final class TierTest {
    private static final int INT = 1, REF = 16;
    private static final int PLAIN = 0, COMPILED = 1, INLINED = 2;
    private static final int[] NO_TYPES = {};
    private static final int[] ONE = {INT};
    private static final Check check = new Check();

    private static void logged(TierMill mill, String what, int k, int... entry) {
        for (int i = 0; i < entry.length; i++) {
            check.due(what + ": log(" + k + ", " + i + ")", entry[i], mill.log(k, i));
        }
    }

    private static void planned(TierMill mill, String what, int m, int k, int... row) {
        for (int i = 0; i < row.length; i++) {
            check.due(what + ": inlined(" + m + ", " + k + ", " + i + ")", row[i], mill.inlined(m, k, i));
        }
    }

    private static void counted(TierMill mill, String what, int... counts) {
        for (int m = 0; m < counts.length; m++) {
            check.due(what + ": COUNT of " + m, counts[m], mill.method(m, 0));
        }
    }

    /** METHOD 0 calls METHOD 1 in a loop of 5 STEPS besides those of the call. */
    private static Filer looping(int... called) {
        return new Filer().method(0, ONE, 1, 1, 47, 1, 20, 0, 255, 3, 0, 26, 0, 49).method(0, NO_TYPES, 0, 1, called);
    }

    private static void counting() {
        TierMill mill = looping(49).loaded();
        mill.start(9, 0, 0, 0);
        counted(mill, "the beginning is an INVOCATION", 1, 0);
        check.due("PLAIN", PLAIN, mill.frame(0, 2));
        mill.run(1);
        counted(mill, "a call", 1, 1);
        check.due("PROFILE", 1, mill.profile(0, 0, 0));
        check.due("PLAIN too", PLAIN, mill.frame(0, 2));
        mill.run(3);
        counted(mill, "ahead of the jump", 1, 1);
        mill.run(1);
        counted(mill, "a jump back", 2, 1);
        mill.run(5);
        counted(mill, "a jump back more: HOT, but it is no INVOCATION", 3, 2);
        check.due("not COMPILED", 0, mill.method(0, 1));
        mill.run(1);
        counted(mill, "HOT", 3, 3);
        check.due("COMPILED", 1, mill.method(1, 1));
        check.due("a COMPILED FRAME", COMPILED, mill.frame(0, 2));
        check.due("in a PLAIN one", PLAIN, mill.frame(1, 2));
        check.due("PROFILE", 3, mill.profile(0, 0, 0));
        logged(mill, "COMPILED", 0, 1, 10, 1, 0, 1);
        check.due("how many were COMPILED", 1, mill.total(7));
        mill.run(5);
        counted(mill, "COMPILED counts on", 4, 4);
        check.due("one ENTRY", 1, mill.total(4));
        check.due("no what 5", -1, mill.log(0, 5));
        check.due("no what -1", -1, mill.log(0, -1));
        check.due("no ENTRY 1", -1, mill.log(1, 0));
        check.due("no ENTRY -1", -1, mill.log(-1, 0));
        mill.start(9, 0, 0, 0);
        counted(mill, "a new RUN", 1, 0);
        check.due("nothing is COMPILED", 0, mill.method(1, 1));
        check.due("no PROFILE", 0, mill.profile(0, 0, 0));
        check.due("nothing in the LOG", 0, mill.total(4));
        check.due("but in all RUNS", 1, mill.total(7));
    }

    private static void jumps() {
        TierMill mill = new Filer().method(0, ONE, 1, 1,
            21, 2,                      // 0: forward, no count
            20, 0, 255,                 // 2
            3, 0, 26, 2,                // 5: back at 7, as long as LOCAL 0 is above 0
            52, 53, 2, 9, 9, 15,        // 9: 53 at 10; 0 and 1 go back to 9, others on
            21, 15).loaded();           // 15: on itself for ever
        mill.start(3, 0, 0, 0);
        mill.run(1);
        counted(mill, "forward", 1);
        mill.run(9);
        counted(mill, "two of three go back", 3);
        check.due("at the 53", 9, mill.frame(0, 1));
        mill.run(2);
        counted(mill, "53 back", 4);
        mill.give(2);
        mill.run(2);
        counted(mill, "53 forward", 4);
        mill.run(3);
        counted(mill, "21 to its own PLACE", 7);
    }

    private static void compiledAtOnce() {
        TierMill mill = looping(49).loaded();
        check.due("tiers", true, mill.tiers(1, 1, 2, 40));
        mill.start(9, 0, 0, 0);
        check.due("COMPILED at the beginning", COMPILED, mill.frame(0, 2));
        logged(mill, "COMPILED at the beginning", 0, 1, 0, 0, 0, 10);
        mill.run(5);
        counted(mill, "a COMPILED FRAME's jumps do not count", 1, 1);
        check.due("its calls have no PROFILE", 0, mill.profile(0, 0, 0));
        check.due("but are INVOCATIONS", 1, mill.method(1, 1));
        logged(mill, "COMPILED by a call", 1, 1, 0, 1, 0, 1);
    }

    /** METHOD 0 loops over METHOD 1, which calls METHOD 2 twice, which calls METHOD 3. */
    private static Filer nested() {
        return looping(47, 2, 47, 2, 49).method(0, NO_TYPES, 0, 0, 47, 3, 49).method(0, NO_TYPES, 0, 0, 49);
    }

    private static void inlining() {
        TierMill mill = nested().loaded();
        mill.tiers(3, 2, 2, 40);
        mill.start(9, 0, 0, 0);
        // A loop without COMPILING: call, (call, call, return, return) twice, return, 20, 3, 26: 13 STEPS.
        mill.run(4);
        counted(mill, "one way down", 1, 1, 1, 1);
        mill.run(9);
        counted(mill, "one loop", 2, 1, 2, 2);
        // METHOD 2 is called a third time: its SITE has been counted twice, so METHOD 3 is INLINED.
        mill.run(2);
        counted(mill, "METHOD 2 is HOT", 2, 2, 3, 2);
        check.due("METHOD 2 is COMPILED", 1, mill.method(2, 1));
        check.due("with one SITE", 1, mill.method(2, 2));
        planned(mill, "METHOD 2", 2, 0, 0, 2, 0, -1, 3);
        logged(mill, "METHOD 2", 0, 1, 14, 2, 1, 4);
        mill.run(1);
        check.due("INLINED", INLINED, mill.frame(0, 2));
        check.due("in METHOD 3", 3, mill.frame(0, 0));
        check.due("within a COMPILED one", COMPILED, mill.frame(1, 2));
        check.due("within a PLAIN one", PLAIN, mill.frame(2, 2));
        counted(mill, "no INVOCATION", 2, 2, 3, 2);
        check.due("a COMPILED FRAME does not count the PROFILE", 2, mill.profile(2, 0, 0));
        mill.run(10);
        counted(mill, "two loops", 3, 2, 4, 2);
        // The third call of METHOD 1: both its SITES have 2, that of METHOD 2 has 2.
        mill.run(1);
        check.due("METHOD 1 is COMPILED", 1, mill.method(1, 1));
        check.due("with four SITES", 4, mill.method(1, 2));
        planned(mill, "METHOD 1", 1, 0, 0, 1, 0, -1, 2);
        planned(mill, "METHOD 1", 1, 1, 1, 2, 0, -1, 3);
        planned(mill, "METHOD 1", 1, 2, 0, 1, 2, -1, 2);
        planned(mill, "METHOD 1", 1, 3, 1, 2, 0, -1, 3);
        logged(mill, "METHOD 1", 1, 1, 26, 1, 4, 13);
        wrongPlans(mill);
        mill.run(2);
        check.due("deep within", 3, mill.frame(0, 0));
        check.due("INLINED in", INLINED, mill.frame(0, 2));
        check.due("what is INLINED in", INLINED, mill.frame(1, 2));
        check.due("what is COMPILED", COMPILED, mill.frame(2, 2));
        counted(mill, "no INVOCATIONS", 3, 3, 4, 2);
    }

    private static void wrongPlans(TierMill mill) {
        check.due("no SITE 4", -1, mill.inlined(1, 4, 0));
        check.due("no SITE -1", -1, mill.inlined(1, -1, 0));
        check.due("no what 5", -1, mill.inlined(1, 0, 5));
        check.due("no what -1", -1, mill.inlined(1, 0, -1));
        check.due("not COMPILED", -1, mill.inlined(0, 0, 0));
        check.due("no METHOD 4", -1, mill.inlined(4, 0, 0));
        check.due("no METHOD -1", -1, mill.inlined(-1, 0, 0));
        check.due("method(4)", -1, mill.method(4, 0));
        check.due("method(-1)", -1, mill.method(-1, 0));
        check.due("method's what 3", -1, mill.method(0, 3));
        check.due("method's what -1", -1, mill.method(0, -1));
        check.due("no SITE there", -1, mill.profile(0, 2, 0));
        check.due("none begins there", -1, mill.profile(0, 1, 0));
        check.due("of a 47 another c", -1, mill.profile(0, 0, 1));
        check.due("of a 47 c -1", -1, mill.profile(0, 0, -1));
        check.due("METHOD 4's profile", -1, mill.profile(4, 0, 0));
        check.due("PLACE -1", -1, mill.profile(0, -1, 0));
        check.due("PLACE 120", -1, mill.profile(0, 120, 0));
    }

    /** How many SITES of METHOD 1 are INLINED, and its bytes, when it is called for the fourth time. */
    private static void plan(String what, Filer file, int samples, int depth, int size, int... want) {
        TierMill mill = file.loaded();
        mill.tiers(4, samples, depth, size);
        mill.start(9, 0, 0, 0);
        for (int i = 0; i < 2000 && mill.method(1, 1) != 1; i++) {
            mill.run(1);
        }
        check.due(what + ": SITES", want[0], mill.method(1, 2));
        int last = mill.total(4) - 1;
        check.due(what + ": SITES in the LOG", want[0], mill.log(last, 3));
        check.due(what + ": bytes in the LOG", want[1], mill.log(last, 4));
    }

    private static void limits() {
        plan("DEPTH 0", nested(), 2, 0, 40, 0, 5);
        plan("DEPTH 1", nested(), 2, 1, 40, 2, 11);
        plan("DEPTH 4", nested(), 2, 4, 40, 4, 13);
        plan("SIZE 0", nested(), 2, 4, 0, 0, 5);
        plan("SIZE 1", nested(), 2, 4, 1, 0, 5);
        plan("SIZE 2", nested(), 2, 4, 2, 0, 5);
        plan("SIZE 3", nested(), 2, 4, 3, 4, 13);
        plan("SAMPLES 3", nested(), 3, 4, 40, 4, 13);
        plan("SAMPLES 4", nested(), 4, 4, 40, 0, 5);
        // METHOD 1 calls METHOD 2 (100 bytes) four times, then METHOD 3 (1 byte): 300 bytes have room for 3 of them.
        int[] large = new int[100];
        java.util.Arrays.fill(large, 49);
        plan("300 bytes", looping(47, 2, 47, 2, 47, 2, 47, 2, 47, 3, 49).method(0, NO_TYPES, 0, 0, large)
            .method(0, NO_TYPES, 0, 0, 49), 1, 1, 120, 3, 311);
        int[] ninety = new int[90];
        java.util.Arrays.fill(ninety, 49);
        plan("smaller ones behind", looping(47, 2, 47, 2, 47, 2, 47, 2, 47, 3, 49).method(0, NO_TYPES, 0, 0, ninety)
            .method(0, NO_TYPES, 0, 0, 49), 1, 1, 120, 4, 282);
        plan("SIZE 99", looping(47, 2, 47, 2, 47, 2, 47, 2, 47, 3, 49).method(0, NO_TYPES, 0, 0, large)
            .method(0, NO_TYPES, 0, 0, 49), 1, 1, 99, 1, 12);
    }

    /** METHOD 1 (INT) calls itself until it is 0. */
    private static void inItself() {
        TierMill mill = new Filer().method(0, ONE, 1, 1, 3, 0, 47, 1, 49)
            .method(0, ONE, 1, 1, 3, 0, 27, 11, 20, 0, 255, 3, 0, 47, 1, 49).loaded();
        mill.tiers(3, 2, 3, 40);
        mill.start(20, 0, 0, 0);
        mill.run(2 + 5 + 5);
        check.due("METHOD 1 is COMPILED", 1, mill.method(1, 1));
        check.due("three times in itself", 3, mill.method(1, 2));
        for (int k = 0; k < 3; k++) {
            planned(mill, "in itself", 1, k, k, 1, 9, -1, 1);
        }
        logged(mill, "in itself", 0, 1, 11, 1, 3, 48);
        mill.run(4 * 5);
        int[] tiers = {COMPILED, INLINED, INLINED, INLINED, COMPILED, PLAIN, PLAIN, PLAIN};
        for (int k = 0; k < tiers.length; k++) {
            check.due("FRAME " + k, tiers[k], mill.frame(k, 2));
        }
        check.due("COUNT", 4, mill.method(1, 0));
        check.due("PROFILE", 2, mill.profile(1, 9, 0));
    }

    // ---- GUARDS

    /**
     * Class 1 and 2 below class 0; METHOD 0 loops: an object of the class that is the input goes to METHOD 1, which
     * calls METHOD 2 with it, which sends SELECTOR 0: METHOD 3 of class 0 and 1, METHOD 4 of class 2.
     */
    private static TierMill guarded() {
        return new Filer().cls(-1).cls(0).cls(0).sel(0)
            .method(0, ONE, 1, 1,
                52, 53, 2, 6, 10, 14,
                38, 0, 21, 16, 38, 1, 21, 16, 38, 2,
                47, 1, 20, 0, 255, 3, 0, 26, 0, 49)
            .method(0, new int[] {REF}, 1, 1, 3, 0, 47, 2, 49)
            .method(0, new int[] {REF}, 1, 1, 3, 0, 48, 0, 49)
            .method(0, new int[] {REF}, 1, 0, 49)
            .method(0, new int[] {REF}, 1, 0, 49)
            .row(3).row(-1).row(4).loaded();
    }

    /** A loop has 52, 53, 38, (21 but for class 2), the call, 3, 47, 3, 48, 49, 49, 49, 20, 3, 26. */
    private static void guarding() {
        TierMill mill = guarded();
        mill.tiers(3, 2, 2, 40);
        for (int input : new int[] {0, 0, 0, 1, 0, 0, 0}) {
            mill.give(input);
        }
        mill.start(20, 0, 0, 0);
        mill.run(15 + 15);
        counted(mill, "two loops", 3, 2, 2, 2, 0);
        check.due("PROFILE of class 0", 2, mill.profile(2, 2, 0));
        check.due("PROFILE of class 1", 0, mill.profile(2, 2, 1));
        check.due("PROFILE of class 2", 0, mill.profile(2, 2, 2));
        check.due("no PROFILE of class 3", -1, mill.profile(2, 2, 3));
        check.due("no PROFILE of class -1", -1, mill.profile(2, 2, -1));
        mill.run(5);
        logged(mill, "METHOD 1", 0, 1, 34, 1, 2, 11);
        planned(mill, "METHOD 1", 1, 0, 0, 1, 2, -1, 2);
        planned(mill, "METHOD 1", 1, 1, 1, 2, 2, 0, 3);
        mill.run(4);
        check.due("METHOD 3 is INLINED", INLINED, mill.frame(0, 2));
        counted(mill, "INLINED", 3, 3, 2, 2, 0);
        // Class 1 has the same METHOD as class 0, but is not the GUARD.
        mill.run(6 + 8);
        check.due("ahead of the GUARD", 2, mill.frame(0, 1));
        check.due("one ENTRY", 1, mill.total(4));
        mill.run(1);
        logged(mill, "the GUARD", 1, 2, 53, 1, 2, 2);
        check.due("METHOD 3", 3, mill.frame(0, 0));
        int[] tiers = {COMPILED, PLAIN, PLAIN, PLAIN};
        for (int k = 0; k < 4; k++) {
            check.due("FRAME " + k, tiers[k], mill.frame(k, 2));
        }
        counted(mill, "the GUARD FAILED", 4, 0, 2, 3, 0);
        check.due("METHOD 1 is COMPILED no more", 0, mill.method(1, 1));
        check.due("METHOD 1 has no PLAN", 0, mill.method(1, 2));
        check.due("none is INLINED", -1, mill.inlined(1, 0, 0));
        check.due("it counts in the PROFILE", 1, mill.profile(2, 2, 1));
        logged(mill, "METHOD 3 is called for the third time", 2, 1, 53, 3, 0, 1);
        check.due("three ENTRIES", 3, mill.total(4));
        mill.run(6 + 15 + 15 + 5);
        logged(mill, "METHOD 2", 3, 1, 66, 2, 0, 5);
        logged(mill, "METHOD 1 anew, without the SITE of two classes", 4, 1, 94, 1, 1, 10);
        check.due("COUNT of METHOD 1", 3, mill.method(1, 0));
    }

    /**
     * METHOD 1 (REF, INT): if the INT is not 0, it calls METHOD 1 (REF, INT - 1); it sends SELECTOR 0 to the object;
     * if the input is not 0, it calls METHOD 1 (a new object of class 0, 0). METHOD 0 does so with an object of class
     * 0 and INT 0 twice, then with one of class 1, below it, and INT 3.
     */
    private static TierMill recursive() {
        TierMill mill = new Filer().cls(-1).cls(0).sel(0)
            .method(0, NO_TYPES, 0, 2,
                38, 0, 0, 0, 47, 1, 38, 0, 0, 0, 47, 1, 38, 1, 0, 3, 47, 1, 49)
            .method(0, new int[] {REF, INT}, 2, 3,
                3, 1, 22, 13, 3, 0, 3, 1, 0, 1, 9, 47, 1, 3, 0, 48, 0, 52, 22, 26, 38, 0, 0, 0, 47, 1, 49)
            .method(0, new int[] {REF}, 1, 0, 49)
            .row(2).row(-1).loaded();
        mill.tiers(3, 2, 1, 40);
        mill.start(0, 0, 0, 0);
        mill.run(2 * (3 + 8) + 3);
        check.due("METHOD 1 is COMPILED", 1, mill.method(1, 1));
        check.due("with one SITE", 1, mill.method(1, 2));
        planned(mill, "METHOD 1", 1, 0, 0, 1, 15, 0, 2);
        mill.run(3 * 7 + 3);
        for (int k = 0; k < 4; k++) {
            check.due("COMPILED " + k, COMPILED, mill.frame(k, 2));
        }
        counted(mill, "deep", 1, 6, 2);
        mill.run(1);
        check.due("METHOD 2", 2, mill.frame(0, 0));
        check.due("the GUARD FAILED", 2, mill.log(1, 0));
        check.due("PLAIN", PLAIN, mill.frame(1, 2));
        check.due("another FRAME keeps its PLAN", COMPILED, mill.frame(2, 2));
        check.due("METHOD 1 is not COMPILED", 0, mill.method(1, 1));
        counted(mill, "COUNT is 0", 1, 0, 3);
        return mill;
    }

    /** A FRAME whose PLAN is no more that of its METHOD: the METHOD keeps what it has. */
    private static void oldPlan() {
        TierMill mill = recursive();
        mill.run(6);
        logged(mill, "a second GUARD", 3, 2, mill.total(0) - 1, 1, 1, 15);
        check.due("PLAIN, too", PLAIN, mill.frame(1, 2));
        check.due("a third FRAME keeps its PLAN", COMPILED, mill.frame(2, 2));
        counted(mill, "COUNT stays 0", 1, 0, 4);

        mill = recursive();
        mill.tiers(1, 2, 1, 40);
        mill.give(1);
        mill.run(6);
        check.due("COMPILED anew", 1, mill.method(1, 1));
        check.due("a new FRAME", COMPILED, mill.frame(0, 2));
        check.due("two classes are not INLINED", 0, mill.method(1, 2));
        counted(mill, "COMPILED anew", 1, 1, 3);
        int entries = mill.total(4);
        mill.run(8 + 1 + 2);
        check.due("a GUARD FAILED", 2, mill.log(entries, 0));
        check.due("PLAIN by the old PLAN", PLAIN, mill.frame(1, 2));
        check.due("with another PLAN it stays so", 1, mill.method(1, 1));
        counted(mill, "with its COUNT", 1, 1, 5);
    }

    public static void main(String[] args) {
        counting();
        jumps();
        compiledAtOnce();
        inlining();
        limits();
        inItself();
        guarding();
        oldPlan();
        check.end();
    }
}
