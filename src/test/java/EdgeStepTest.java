import java.math.BigInteger;

/** The edges of STEPS and TRAPS: a test of its own for each sentence that names one. */
final class EdgeStepTest {
    private static final int INT = 1, ARRAY = 2, REF = 16;
    private static final int LEAST = Integer.MIN_VALUE, GREATEST = Integer.MAX_VALUE;
    private static final int[] NO_TYPES = {};
    private static final int[] TWO = {INT, INT};
    private static final int[] NUMBERS = {
        LEAST, LEAST + 1, -65536, -32769, -129, -128, -33, -32, -31, -2, -1, 0, 1, 2, 3, 7, 30, 31, 32, 33, 63, 64,
        127, 128, 65535, 65536, 46341, 1 << 30, GREATEST - 1, GREATEST};
    private static final Check check = new Check();

    /** Class 0 (INT, ARRAY, REF 0), class 1 below it, class 2 apart; METHOD 0 (INT, INT) RETURNS INT. */
    private static Filer filer(int... code) {
        return new Filer().cls(-1, INT, ARRAY, REF).cls(0).cls(-1).method(INT, TWO, 6, 8, code);
    }

    private static int result(TierMill mill, int a, int b) {
        mill.start(a, b, 0, 0);
        mill.run(100);
        return mill.state() == 2 ? mill.result(1) : Check.ANOTHER;
    }

    // ---- INTS

    /** As true numbers, then cut to 32 bits. */
    private static int calculated(int op, int x, int y) {
        BigInteger a = BigInteger.valueOf(x);
        BigInteger b = BigInteger.valueOf(y);
        int low = y & 31;
        switch (op) {
            case 8: return a.add(b).intValue();
            case 9: return a.subtract(b).intValue();
            case 10: return a.multiply(b).intValue();
            case 11: return a.divide(b).intValue();
            case 12: return a.remainder(b).intValue();
            case 13: return a.and(b).intValue();
            case 14: return a.or(b).intValue();
            case 15: return a.xor(b).intValue();
            case 16: return a.shiftLeft(low).intValue();
            case 17: return a.shiftRight(low).intValue();
            default: return BigInteger.valueOf(x & 0xFFFFFFFFL).shiftRight(low).intValue();
        }
    }

    private static void calculating() {
        for (int op = 8; op <= 18; op++) {
            check.says(op < 16 ? "1 INT (32 bits, wraps)" : "by y's lowest 5 bits");
            TierMill mill = null;
            int calls = 0;
            for (int x : NUMBERS) {
                for (int y : NUMBERS) {
                    if (calls % 100 == 0) {
                        mill = filer(3, 0, 3, 1, op, 50).loaded();
                    }
                    calls++;
                    if (y != 0 || op != 11 && op != 12) {
                        check.due(op + " of " + x + " and " + y, calculated(op, x, y), result(mill, x, y));
                    }
                }
            }
        }
        check.says("x / y (towards 0), the rest (with x's sign)");
        int[][] rows = {{7, 2, 3, 1}, {-7, 2, -3, -1}, {7, -2, -3, 1}, {-7, -2, 3, -1}, {1, 2, 0, 1}, {-1, 2, 0, -1},
            {LEAST, -1, LEAST, 0}, {LEAST, 1, LEAST, 0}, {LEAST, LEAST, 1, 0}, {GREATEST, LEAST, 0, GREATEST}};
        for (int[] row : rows) {
            check.due(row[0] + " / " + row[1], row[2], result(filer(3, 0, 3, 1, 11, 50).loaded(), row[0], row[1]));
            check.due(row[0] + " rest " + row[1], row[3], result(filer(3, 0, 3, 1, 12, 50).loaded(), row[0], row[1]));
        }
    }

    private static void wrapping() {
        check.says("19: x > -x");
        for (int x : NUMBERS) {
            check.due("19 of " + x, (int) -(long) x, result(filer(3, 0, 19, 50).loaded(), x, 0));
        }
        check.due("19 of the least", LEAST, result(filer(3, 0, 19, 50).loaded(), LEAST, 0));
        check.says("20 l b: b is added to the LOCAL");
        for (int x : NUMBERS) {
            for (int b : new int[] {0, 1, 127, 128, 255}) {
                int want = (int) ((long) x + (b < 128 ? b : b - 256));
                check.due("20 of " + x + " and " + b, want, result(filer(20, 1, b, 3, 1, 50).loaded(), 0, x));
            }
        }
        check.due("20 wraps up", LEAST + 126, result(filer(20, 1, 127, 3, 1, 50).loaded(), 0, GREATEST));
        check.due("20 wraps down", GREATEST - 127, result(filer(20, 1, 128, 3, 1, 50).loaded(), 0, LEAST));
    }

    // ---- jumps

    private static boolean goesOn(int op, long x, long y) {
        switch (op) {
            case 22: return x == y;
            case 23: return x != y;
            case 24: return x < y;
            case 25: return x >= y;
            case 26: return x > y;
            default: return x <= y;
        }
    }

    private static void comparing() {
        int[] numbers = {LEAST, LEAST + 1, -1, 0, 1, GREATEST - 1, GREATEST};
        check.says("on at p if x is 0, not 0, below 0, not below, above, not above");
        for (int op = 22; op <= 27; op++) {
            for (int x : numbers) {
                int want = goesOn(op, x, 0) ? 1 : 0;
                check.due(op + " of " + x, want, result(filer(3, 0, op, 7, 0, 0, 50, 0, 1, 50).loaded(), x, 9));
            }
        }
        check.says("on at p if x = y, x and y differ, x < y, x >= y, x > y, x <= y");
        for (int op = 28; op <= 33; op++) {
            for (int x : numbers) {
                for (int y : numbers) {
                    int want = goesOn(op - 6, x, y) ? 1 : 0;
                    check.due(op + " of " + x + " and " + y, want,
                        result(filer(3, 0, 3, 1, op, 9, 0, 0, 50, 0, 1, 50).loaded(), x, y));
                }
            }
        }
    }

    /** Null, objects and ARRAYS, alone and in pairs; the same one by 6. */
    private static void sameOnes() {
        check.says("on at p if it is null, is not");
        int[][] ones = {{2}, {38, 0}, {38, 2}, {0, 0, 41}};
        for (int i = 0; i < ones.length; i++) {
            for (int op = 34; op <= 35; op++) {
                int at = ones[i].length;
                int[] code = Filer.join(ones[i], new int[] {op, at + 5, 0, 0, 50, 0, 1, 50});
                check.due(op + " of " + i, (i == 0) == (op == 34) ? 1 : 0, result(filer(code).loaded(), 0, 0));
            }
        }
        check.says("on at p if they are the same one (both null, too), are not");
        int[][] pairs = {{2, 2}, {38, 0, 6}, {38, 0, 38, 0}, {38, 0, 2}, {2, 38, 0}, {0, 0, 41, 6},
            {0, 0, 41, 0, 0, 41}, {0, 0, 41, 2}, {38, 0, 38, 2}, {38, 0, 46, 0, 6}};
        boolean[] same = {true, true, false, false, false, true, false, false, false, true};
        for (int i = 0; i < pairs.length; i++) {
            for (int op = 36; op <= 37; op++) {
                int at = pairs[i].length;
                int[] code = Filer.join(pairs[i], new int[] {op, at + 5, 0, 0, 50, 0, 1, 50});
                check.due(op + " of pair " + i, same[i] == (op == 36) ? 1 : 0, result(filer(code).loaded(), 0, 0));
            }
        }
    }

    private static void choosing() {
        check.says("x >, on at px, if x is 0 .. n - 1, else at pn (n 1 .. 8)");
        for (int n = 1; n <= 8; n++) {
            int[] code = Filer.join(new int[] {3, 0, 53, n}, new int[n + 1]);
            for (int i = 0; i <= n; i++) {
                code[4 + i] = code.length;
                code = Filer.join(code, new int[] {0, 40 + i, 50});
            }
            TierMill mill = filer(code).loaded();
            for (int x : new int[] {LEAST, -256, -1, 0, 1, 2, 3, 4, 5, 6, 7, 8, 9, 255, 256, 1 << 16, GREATEST}) {
                check.due("53 " + n + " of " + x, 40 + (x >= 0 && x < n ? x : n), result(mill, x, 0));
            }
        }
    }

    // ---- objects

    private static void objects() {
        check.says("a new object of the class, all FIELDS 0 or null");
        TierMill mill = filer(38, 1, 4, 2, 0, 0, 50).loaded();
        mill.start(0, 0, 0, 0);
        mill.run(2);
        for (int f = 0; f < 3; f++) {
            check.due("FIELD " + f, 0, mill.part(0, 2, 2 + f));
        }
        check.says("41: x > a new ARRAY of x INTS 0");
        for (int length : new int[] {0, 1, 2, 498}) {
            TierMill made = filer(3, 0, 41, 4, 2, 3, 2, 44, 50).loaded();
            made.start(length, 0, 0, 0);
            made.run(3);
            check.due("its INTS", length, made.part(0, 2, 1));
            check.due("none behind them", Check.NO_ELEMENT, () -> made.part(0, 2, 2 + length));
            for (int i = 0; i < length && i < 3; i++) {
                check.due("INT " + i, 0, made.part(0, 2, 2 + i));
            }
            made.run(9);
            check.due("44", length, made.result(1));
        }
        check.says("45 c: x > 1 if it is an object of the class or of one BELOW it, else 0 (also of null)");
        check.due("45 of null", 0, result(filer(2, 45, 0, 50).loaded(), 0, 0));
        check.due("45 of the class", 1, result(filer(38, 1, 45, 1, 50).loaded(), 0, 0));
        check.due("45 of one BELOW it", 1, result(filer(38, 1, 45, 0, 50).loaded(), 0, 0));
        check.due("45 of its SUPER", 0, result(filer(38, 0, 45, 1, 50).loaded(), 0, 0));
        check.due("45 of one apart", 0, result(filer(38, 2, 45, 0, 50).loaded(), 0, 0));
        check.says("46 c: x > x.");
        TierMill cast = filer(38, 0, 4, 2, 38, 1, 46, 0, 46, 1, 3, 2, 46, 0, 2, 46, 2, 0, 1, 50).loaded();
        cast.start(0, 0, 0, 0);
        cast.run(4);
        check.due("46 of the second object", 2, cast.local(0, 100));
        cast.run(1);
        check.due("46 again", 2, cast.local(0, 100));
        check.due("it is what it was", 1, cast.part(0, 100, 0));
        cast.run(4);
        check.due("46 of the first object", 1, cast.local(0, 101));
        check.due("46 of null", 0, cast.local(0, 102));
        check.says("52: > the next input (0 if there is none)");
        TierMill asking = filer(52, 52, 0, 10, 10, 8, 50).loaded();
        asking.give(3);
        check.due("one input, none", 3, result(asking, 0, 0));
        asking.give(3);
        asking.give(4);
        check.due("two inputs", 43, result(asking, 0, 0));
    }

    // ---- the STACK, LOCALS, FIELDS and INTS

    /** Eight LOCALS, and a STACK that is full: what is moved is all that moves. */
    private static void moving() {
        check.says("3 l: > the LOCAL. 4 l: x >, the LOCAL becomes x. 5: x >. 6: x > x, x. 7: x, y > y, x.");
        TierMill mill = new Filer().method(0, Filer.types(INT, INT, INT, INT), 8, 8,
            3, 3, 4, 7, 3, 7, 3, 0, 3, 1, 3, 2, 3, 3, 3, 0, 6, 6, 7, 5, 5, 7, 2, 4, 6, 49).loaded();
        mill.start(10, 20, 30, 40);
        mill.run(2);
        check.due("LOCAL 7", 40, mill.local(0, 7));
        check.due("nothing on the STACK", 0, mill.frame(0, 3));
        mill.run(8);
        stackIs("a full STACK", mill, 40, 10, 20, 30, 40, 10, 10, 10);
        mill.run(1);
        stackIs("7 of the same", mill, 40, 10, 20, 30, 40, 10, 10, 10);
        mill.run(2);
        stackIs("5, 5", mill, 40, 10, 20, 30, 40, 10);
        mill.run(1);
        stackIs("7", mill, 40, 10, 20, 30, 10, 40);
        mill.run(1);
        check.says("2: > null");
        stackIs("2", mill, 40, 10, 20, 30, 10, 40, 0);
        mill.run(1);
        check.due("LOCAL 6 is null", 0, mill.local(0, 6));
        stackIs("4", mill, 40, 10, 20, 30, 10, 40);
        for (int i = 0; i < 4; i++) {
            check.due("LOCAL " + i + " stays", 10 * (i + 1), mill.local(0, i));
        }
    }

    private static void stackIs(String what, TierMill mill, int... want) {
        check.due(what + ": how many", want.length, mill.frame(0, 3));
        for (int i = 0; i < want.length; i++) {
            int at = 100 + i;
            check.due(what + ": " + i, want[i], () -> mill.local(0, at));
        }
    }

    /** What is on the STACK for an INSTRUCTION, it (-1: the PLACE behind it), and how many it puts in their place. */
    private static final int[][][] STACKED = {
        {{}, {0, 1}, {1}}, {{}, {1, 0, 1}, {1}}, {{}, {2}, {1}}, {{}, {3, 0}, {1}}, {{0, 1}, {4, 1}, {0}},
        {{0, 1}, {5}, {0}}, {{0, 1}, {6}, {2}}, {{0, 1, 2}, {7}, {2}}, {{0, 8}, {19}, {1}}, {{}, {20, 0, 1}, {0}},
        {{}, {21, -1}, {0}}, {{2}, {34, -1}, {0}}, {{2}, {35, -1}, {0}}, {{2, 2}, {36, -1}, {0}},
        {{2, 2}, {37, -1}, {0}}, {{0, 1}, {53, 1, -1, -1}, {0}}, {{}, {38, 0}, {1}}, {{38, 0}, {39, 0, 0}, {1}},
        {{38, 0, 2}, {40, 0, 2}, {0}}, {{0, 1}, {41}, {1}}, {{0, 1, 41, 0, 0}, {42}, {1}},
        {{0, 1, 41, 0, 0, 0, 5}, {43}, {0}}, {{0, 1, 41}, {44}, {1}}, {{2}, {45, 0}, {1}}, {{38, 0}, {45, 0}, {1}},
        {{2}, {46, 0}, {1}}, {{38, 0}, {46, 0}, {1}}, {{0, 1}, {51}, {0}}, {{}, {52}, {1}}};

    private static void leaves(int[] ahead, int[] op, int puts) {
        int[] before = Filer.join(new int[] {0, 77}, ahead);
        int[] that = op.clone();
        for (int i = 0; i < that.length; i++) {
            that[i] = that[i] < 0 ? before.length + that.length : that[i];
        }
        TierMill mill = filer(Filer.join(Filer.join(before, that), new int[] {0, 0, 50})).loaded();
        mill.start(0, 0, 0, 0);
        for (int i = 0; i < 9 && mill.frame(0, 1) != before.length; i++) {
            mill.run(1);
        }
        mill.run(1);
        check.due(op[0] + " goes on behind it", before.length + op.length, mill.frame(0, 1));
        check.due(op[0] + " puts " + puts, 1 + puts, mill.frame(0, 3));
        check.due(op[0] + ": what was below stays", 77, mill.local(0, 100));
        for (int i = 0; i < 9; i++) {
            boolean isThere = mill.kind(0, before.length + op.length, 100 + i) != TierMill.NONE;
            int at = 100 + i;
            boolean isSeen = Check.answered(() -> mill.local(0, at)) != Check.NO_ELEMENT;
            check.due(op[0] + ": " + i + " is there", isThere, isSeen);
        }
    }

    private static void takesAndPuts() {
        check.says("Ahead of > what it takes from the STACK (the last one on top), behind it what it puts there");
        for (int[][] row : STACKED) {
            leaves(row[0], row[1], row[2][0]);
        }
        for (int op = 8; op <= 18; op++) {
            leaves(new int[] {0, 9, 0, 4}, new int[] {op}, 1);
        }
        for (int op = 22; op <= 33; op++) {
            leaves(op < 28 ? new int[] {0, 9} : new int[] {0, 9, 0, 4}, new int[] {op, -1}, 0);
        }
    }

    /** Each of 8 FIELDS gets its own number: the others keep theirs. */
    private static void fields() {
        check.says("39 c f: x > its FIELD. 40 c f: x, y >, the FIELD of x becomes y.");
        int[] code = {38, 1, 4, 0, 38, 1, 4, 1};
        for (int f = 0; f < 8; f++) {
            code = Filer.join(code, new int[] {3, 0, 0, 50 + f, 40, f < 4 ? 0 : 1, f});
        }
        for (int f = 0; f < 8; f++) {
            code = Filer.join(code, new int[] {3, 0, 39, 1, f, 51});
        }
        TierMill mill = new Filer().cls(-1, INT, INT, INT, INT).cls(0, INT, INT, INT, INT)
            .method(0, NO_TYPES, 2, 2, Filer.join(code, new int[] {49})).loaded();
        mill.start(0, 0, 0, 0);
        mill.run(4 + 3);
        check.due("nothing is left on the STACK", 0, mill.frame(0, 3));
        mill.run(3 * 7);
        for (int f = 0; f < 8; f++) {
            check.due("FIELD " + f, 50 + f, mill.part(0, 0, 2 + f));
            check.due("FIELD " + f + " of another object", 0, mill.part(0, 1, 2 + f));
        }
        mill.run(3 * 8);
        for (int f = 0; f < 8; f++) {
            check.due("39 of FIELD " + f, 50 + f, mill.output(f));
        }
    }

    private static void ints() {
        check.says("42: x, i > INT i of x. 43: x, i, y >, that becomes y. 44: x > how many INTS it has.");
        TierMill mill = new Filer().method(0, Filer.types(INT, INT), 3, 3,
            3, 0, 41, 4, 2, 3, 2, 3, 1, 0, 9, 43, 3, 2, 3, 1, 42, 51, 3, 2, 44, 51, 49).loaded();
        for (int length = 1; length <= 4; length++) {
            for (int i = 0; i < length; i++) {
                mill.start(length, i, 0, 0);
                mill.run(7);
                check.due("nothing is left on the STACK", 0, mill.frame(0, 3));
                for (int k = 0; k < length; k++) {
                    check.due("INT " + k + " of " + length, k == i ? 9 : 0, mill.part(0, 2, 2 + k));
                }
                mill.run(7);
                check.due("42", 9, mill.output(0));
                check.due("44", length, mill.output(1));
            }
        }
    }

    /** Eight classes one below the other; SELECTOR 0 (INT, INT, INT) of the last one is had by the first. */
    private static void sending() {
        check.says("48 s: x, the SELECTOR's PARAMETERS >, the METHOD that x's class has for it (or its SUPER, and so "
            + "on) is called with all of these.");
        Filer file = new Filer().cls(-1);
        for (int c = 1; c < 8; c++) {
            file.cls(c - 1);
        }
        file.sel(0, INT, INT, INT).method(0, NO_TYPES, 0, 5, 0, 8, 38, 7, 0, 1, 0, 2, 0, 3, 48, 0, 49)
            .method(0, Filer.types(REF, INT, INT, INT), 5, 0, 49).row(1);
        for (int c = 1; c < 8; c++) {
            file.row(-1);
        }
        TierMill mill = file.loaded();
        mill.start(0, 0, 0, 0);
        mill.run(6);
        check.due("METHOD 1", 1, mill.frame(0, 0));
        check.due("x is its first PARAMETER", 7, mill.part(0, 0, 0));
        for (int i = 1; i < 4; i++) {
            check.due("PARAMETER " + i, i, mill.local(0, i));
        }
        check.due("what is left", 8, mill.local(1, 100));
        check.due("and no more", 1, mill.frame(1, 3));
        check.says("49: the METHOD returns.");
        mill.run(1);
        check.due("one FRAME", 1, mill.total(3));
        check.due("nothing comes to the STACK", 1, mill.frame(0, 3));
    }

    /** Two classes with eight SELECTORS each, all with METHODS of their own but for one that class 1 inherits. */
    private static void selectors() {
        check.says("the METHOD that x's class has for it (or its SUPER, and so on) is called");
        for (int c = 0; c < 2; c++) {
            for (int s = 0; s < 8; s++) {
                Filer file = new Filer().cls(-1).cls(0);
                for (int k = 0; k < 8; k++) {
                    file.sel(INT);
                }
                file.method(INT, NO_TYPES, 0, 1, 38, c, 48, s, 50);
                for (int m = 1; m < 16; m++) {
                    file.method(INT, Filer.types(REF), 1, 1, 0, m, 50);
                }
                TierMill mill = file.row(1, 2, 3, 4, 5, 6, 7, 8).row(9, 10, 11, -1, 12, 13, 14, 15).loaded();
                mill.start(0, 0, 0, 0);
                mill.run(5);
                int want = c == 0 || s == 3 ? 1 + s : s < 3 ? 9 + s : 8 + s;
                check.due("SELECTOR " + s + " of class " + c, want, mill.result(1));
            }
        }
    }

    // ---- FRAMES

    /** METHOD 1 calls itself for ever, 2 STEPS each, by 47 or by 48. */
    private static Filer deep(boolean send) {
        return new Filer().cls(-1).sel(0)
            .method(0, NO_TYPES, 0, 1, 38, 0, 47, 1, 49)
            .method(0, Filer.types(REF), 1, 1, 3, 0, send ? 48 : 47, send ? 0 : 1, 49)
            .row(1);
    }

    private static void frames() {
        for (int send = 0; send < 2; send++) {
            boolean sends = send == 1;
            check.says("7 a 65th FRAME");
            TierMill mill = deep(sends).loaded();
            mill.start(0, 0, 0, 0);
            check.due("STEPS until there are 64 FRAMES", 128 - 2, mill.run(2 * 63));
            check.due("64 FRAMES", 64, mill.total(3));
            check.due("the RUN goes on", 1, mill.state());
            check.due("the STEP ahead of it", 1, mill.run(1));
            check.due("the 65th FRAME", 0, mill.run(9));
            check.due("TRAP 7", 7, mill.result(0));
            check.due("64 FRAMES yet", 64, mill.total(3));
            check.due("the first FRAME", 0, mill.frame(63, 0));
            check.due("no FRAME 64", -1, mill.frame(64, 0));
            check.due("it is at the call yet", 2, mill.frame(0, 1));
            check.due("with what it would take", 1, mill.frame(0, 3));
            boolean isSend = sends;
            unchanged("TRAP 7", 127, m -> {
                deep(isSend).loadInto(m);
                m.start(0, 0, 0, 0);
            });
        }
        check.says("with the last one the RUN has ENDED");
        TierMill mill = filer(3, 0, 50).loaded();
        mill.start(8, 0, 0, 0);
        mill.run(1);
        check.due("under way", 1, mill.state());
        mill.run(1);
        check.due("ENDED", 2, mill.state());
        check.due("no FRAMES", 0, mill.total(3));
    }

    private static void calling() {
        check.says("47, 48 make a FRAME at PLACE 0 (the PLACE of the one that called is behind the call then)");
        TierMill mill = filer(0, 9, 0, 8, 0, 7, 47, 1, 8, 50)
            .method(INT, TWO, 3, 2, 3, 0, 3, 1, 9, 50).loaded();
        mill.start(0, 0, 0, 0);
        mill.run(4);
        check.due("PLACE", 0, mill.frame(0, 1));
        check.due("PLACE of the one that called", 8, mill.frame(1, 1));
        check.due("first PARAMETER", 8, mill.local(0, 0));
        check.due("the last one was on top", 7, mill.local(0, 1));
        check.due("the STACK of the one that called", 1, mill.frame(1, 3));
        check.due("its KIND is NO", Check.NO_ELEMENT, () -> mill.local(0, 2));
        check.says("What is RETURNED comes to the STACK of the one that called");
        mill.run(4);
        check.due("one FRAME", 1, mill.total(3));
        check.due("on the STACK", 1, mill.local(0, 101));
        check.due("behind the call", 8, mill.frame(0, 1));
        mill.run(9);
        check.due("all together", 10, mill.result(1));
    }

    /** Each FRAME has another height when it calls: METHOD 0 one, METHOD 1 none, METHOD 2 two besides what is taken. */
    private static void handingOn() {
        check.says("47 m: the METHOD's PARAMETERS (the last one on top) >, it is called.");
        TierMill mill = filer(0, 9, 0, 1, 0, 2, 47, 1, 50)
            .method(0, TWO, 2, 4, 3, 0, 3, 1, 0, 3, 0, 4, 47, 2, 49)
            .method(0, Filer.types(INT, INT, INT, INT), 4, 4, 0, 5, 0, 6, 3, 3, 3, 2, 47, 3, 49)
            .method(0, TWO, 2, 0, 49).loaded();
        mill.start(0, 0, 0, 0);
        mill.run(4 + 5 + 5);
        int[][] locals = {{4, 3}, {1, 2, 3, 4}, {1, 2}, {0, 0}};
        int[] heights = {0, 2, 0, 1};
        for (int k = 0; k < 4; k++) {
            check.due("METHOD", 3 - k, mill.frame(k, 0));
            check.due("STACK of METHOD " + (3 - k), heights[k], mill.frame(k, 3));
            for (int i = 0; i < locals[k].length; i++) {
                check.due("LOCAL " + i + " of METHOD " + (3 - k), locals[k][i], mill.local(k, i));
            }
        }
        check.due("METHOD 2's STACK", 5, mill.local(1, 100));
        check.due("METHOD 2's STACK", 6, mill.local(1, 101));
        check.due("METHOD 0's STACK", 9, mill.local(3, 100));
    }

    /** METHOD 1 leaves what it has on its STACK: the next FRAME in its place begins without. */
    private static void emptyStack() {
        check.says("47, 48 make a FRAME at PLACE 0");
        TierMill mill = filer(47, 1, 47, 1, 47, 2, 0, 1, 50).method(0, NO_TYPES, 1, 3, 2, 2, 0, 5, 49)
            .method(0, NO_TYPES, 0, 1, 0, 6, 51, 49).loaded();
        mill.start(0, 0, 0, 0);
        for (int call = 0; call < 2; call++) {
            mill.run(1);
            check.due("METHOD 1's STACK at first", 0, mill.frame(0, 3));
            mill.run(3);
            check.due("METHOD 1's STACK at last", 3, mill.frame(0, 3));
            check.due("its INT", 5, mill.local(0, 102));
            mill.run(1);
        }
        mill.run(1);
        check.due("METHOD 2's STACK at first", 0, mill.frame(0, 3));
        mill.run(2);
        check.due("what it puts out", 6, mill.output(0));
        check.due("METHOD 2's STACK", 0, mill.frame(0, 3));
        check.due("a new RUN", true, mill.start(0, 0, 0, 0));
        check.due("its STACK", 0, mill.frame(0, 3));
    }

    // ---- TRAPS

    /** The way traps in the STEP behind so many: all is seen as before it, but for state() and result(0). */
    private static void unchanged(String what, int steps, Seen.Way way, String... but) {
        String[] changing = new String[but.length + 2];
        changing[0] = "state()";
        changing[1] = "result(0)";
        System.arraycopy(but, 0, changing, 2, but.length);
        check.alike(what, mill -> {
            way.go(mill);
            mill.run(steps);
        }, mill -> {
            way.go(mill);
            mill.run(steps + 1);
        }, changing);
    }

    private static void trap(String what, int trap, int steps, int a, int b, int... code) {
        TierMill mill = filer(code).loaded();
        mill.start(a, b, 0, 0);
        check.due(what + ": run", steps, mill.run(2000));
        check.due(what + ": state", 3, mill.state());
        check.due(what + ": TRAP", trap, mill.result(0));
        check.due(what + ": nothing RETURNED", 0, mill.result(1));
        check.due(what + ": it is over", Check.STATE, () -> mill.run(1));
        check.due(what + ": its STEPS", steps, mill.total(0));
        check.due(what + ": all STEPS", steps, mill.total(1));
        unchanged(what, steps, m -> {
            filer(code).loadInto(m);
            m.start(a, b, 0, 0);
        });
    }

    private static void noTrap(String what, int want, int a, int b, int... code) {
        check.due(what, want, result(filer(code).loaded(), a, b));
    }

    private static void traps() {
        check.says("TRAPS: 1 / or rest by 0");
        for (int x : new int[] {LEAST, 0, 5}) {
            trap("/ of " + x, 1, 2, x, 0, 3, 0, 3, 1, 11, 50);
            trap("rest of " + x, 1, 2, x, 0, 3, 0, 3, 1, 12, 50);
        }
        check.says("2 null (x of 39, 40, 42 .. 44, 48)");
        trap("39", 2, 1, 0, 0, 2, 39, 0, 0, 50);
        trap("40", 2, 2, 0, 0, 2, 0, 1, 40, 0, 0, 0, 1, 50);
        trap("42", 2, 2, 0, 0, 2, 0, 0, 42, 50);
        trap("43", 2, 3, 0, 0, 2, 0, 0, 0, 1, 43, 0, 1, 50);
        trap("44", 2, 1, 0, 0, 2, 44, 50);
        noTrap("y of 40 may be null", 1, 0, 0, 38, 0, 2, 40, 0, 2, 0, 1, 50);
        noTrap("46 of null", 1, 0, 0, 2, 46, 0, 5, 0, 1, 50);
        check.says("3 no such INT of an ARRAY");
        for (int i : new int[] {LEAST, -1, 3, 4, GREATEST}) {
            trap("42 of INT " + i, 3, 3, 3, i, 3, 0, 41, 3, 1, 42, 50);
            trap("43 of INT " + i, 3, 4, 3, i, 3, 0, 41, 3, 1, 0, 7, 43, 0, 1, 50);
        }
        trap("42 of INT 0 of none", 3, 3, 0, 0, 3, 0, 41, 3, 1, 42, 50);
        for (int i = 0; i < 3; i++) {
            noTrap("42 of INT " + i, 0, 3, i, 3, 0, 41, 3, 1, 42, 50);
            noTrap("43 of INT " + i, 7, 3, i, 3, 0, 41, 4, 2, 3, 2, 3, 1, 0, 7, 43, 3, 2, 3, 1, 42, 50);
        }
        check.says("4 an ARRAY of less than 0 INTS");
        for (int length : new int[] {LEAST, LEAST + 1, -3, -2, -1}) {
            trap("41 of " + length, 4, 1, length, 0, 3, 0, 41, 44, 50);
        }
        noTrap("41 of 0", 0, 0, 0, 3, 0, 41, 44, 50);
        check.says("5 x of 46 is neither null nor an object of the class or of one BELOW it");
        trap("46 of its SUPER", 5, 1, 0, 0, 38, 0, 46, 1, 5, 0, 1, 50);
        trap("46 of one apart", 5, 1, 0, 0, 38, 2, 46, 0, 5, 0, 1, 50);
        noTrap("46 of the class", 1, 0, 0, 38, 1, 46, 1, 5, 0, 1, 50);
        noTrap("46 of one BELOW it", 1, 0, 0, 38, 1, 46, 0, 5, 0, 1, 50);
    }

    /** METHOD 1 (REF 0, INT) calls itself with INT - 1 until that is 0, then sends SELECTOR 0 to its REF. */
    private static Filer atTheBottom(boolean isNull) {
        int[] first = isNull ? new int[] {2, 46, 0} : new int[] {38, 0, 46, 0};
        return new Filer().cls(-1).sel(0, INT)
            .method(0, Filer.types(INT), 1, 2, Filer.join(first, new int[] {3, 0, 47, 1, 49}))
            .method(0, Filer.types(REF, INT), 2, 2,
                3, 1, 23, 11, 3, 0, 0, 1, 48, 0, 49, 3, 0, 20, 1, 255, 3, 1, 47, 1, 49)
            .row(1);
    }

    private static void order() {
        check.says("(2 ahead of 3 and 7)");
        trap("null and no such INT", 2, 2, 0, -1, 2, 3, 1, 42, 50);
        trap("null and no such INT of 43", 2, 3, 0, -1, 2, 3, 1, 0, 7, 43, 0, 1, 50);
        for (int depth = 61; depth <= 62; depth++) {
            TierMill mill = atTheBottom(true).loaded();
            mill.start(depth, 0, 0, 0);
            mill.run(2000);
            check.due("FRAMES", depth + 2, mill.total(3));
            check.due("null at FRAME " + (depth + 2), 2, mill.result(0));
        }
        TierMill mill = atTheBottom(false).loaded();
        mill.start(62, 0, 0, 0);
        mill.run(2000);
        check.due("64 FRAMES", 64, mill.total(3));
        check.due("an object at FRAME 64", 7, mill.result(0));
        check.due("at the 48", 8, mill.frame(0, 1));
    }

    private static void nullSent() {
        check.says("2 null (x of 39, 40, 42 .. 44, 48)");
        unchanged("48 of null", 8, mill -> {
            atTheBottom(true).loadInto(mill);
            mill.start(0, 0, 0, 0);
        });
        check.says("The STEP is not done and does not count, all stays as it was before it");
        unchanged("48 of null within COMPILED FRAMES", 2 + 2 + 6 * 6 + 4, mill -> {
            atTheBottom(true).loadInto(mill);
            mill.tiers(1, 1, 2, 120);
            mill.start(6, 0, 0, 0);
        });
        unchanged("a 65th FRAME within INLINED FRAMES", 4 + 62 * 6 + 4, mill -> {
            atTheBottom(false).loadInto(mill);
            mill.tiers(3, 1, 4, 120);
            mill.start(62, 0, 0, 0);
        });
    }

    public static void main(String[] args) {
        calculating();
        wrapping();
        comparing();
        sameOnes();
        choosing();
        objects();
        moving();
        takesAndPuts();
        fields();
        ints();
        sending();
        selectors();
        frames();
        calling();
        handingOn();
        emptyStack();
        traps();
        order();
        nullSent();
        check.end();
    }
}
