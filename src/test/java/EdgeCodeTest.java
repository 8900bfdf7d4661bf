import java.util.Arrays;

/** The edges of CODE and of FAULT 2: a test of its own for each sentence that names one. */
final class EdgeCodeTest {
    private static final int INT = 1, ARRAY = 2, REF = 16;
    private static final int[] NO_TYPES = {};
    /** How many bytes stand behind the first one of INSTRUCTIONS 0 to 52. */
    private static final int[] TOLD = {
        1, 2, 0, 1, 1, 0, 0, 0, 0, 0, 0, 0, 0, 0, 0, 0, 0, 0, 0, 0, 2,
        1, 1, 1, 1, 1, 1, 1, 1, 1, 1, 1, 1, 1, 1, 1, 1, 1,
        1, 2, 2, 0, 0, 0, 0, 1, 1, 1, 1, 0, 0, 0, 0};
    private static final Check check = new Check();

    /** Class 0 has 2 FIELDS, class 1 below it 3, class 2 none; 2 SELECTORS, 3 METHODS; METHOD 0 has 3 LOCALS. */
    private static Filer filer(int... code) {
        return new Filer().cls(-1, INT, ARRAY).cls(0, REF).cls(-1).sel(0).sel(0)
            .method(0, NO_TYPES, 3, 8, code).method(0, NO_TYPES, 0, 0, 49).method(0, NO_TYPES, 0, 0, 49)
            .row(-1, -1).row(-1, -1).row(-1, -1);
    }

    /** A new object, and one that had other FILES before. */
    private static TierMill[] objects() {
        return new TierMill[] {new TierMill(), Busy.used()};
    }

    private static void wrong(String what, int place, int... code) {
        wrongFile(what, place, filer(code));
    }

    private static void wrongFile(String what, int place, Filer file) {
        for (TierMill mill : objects()) {
            Filer.putAll(mill, file.bytes());
            check.due(what + ": load", Check.ARGUMENT, mill::load);
            check.due(what + ": fault(0)", 2, mill.fault(0));
            check.due(what + ": fault(1)", place, mill.fault(1));
            check.due(what + ": fault(2)", 0, mill.fault(2));
        }
    }

    /** It may have a FAULT 3, but no FAULT 2. */
    private static void named(String what, int... code) {
        for (TierMill mill : objects()) {
            Filer.putAll(mill, filer(code).bytes());
            Check.answered(mill::load);
            check.due(what + " is no FAULT 2", true, mill.fault(0) % 3 == 0);
        }
    }

    private static int[] code(int... code) {
        return code;
    }

    private static int[] filled(int count, int value) {
        int[] row = new int[count];
        Arrays.fill(row, value);
        return row;
    }

    // ---- numbers

    private static void gives(String what, int want, int... code) {
        TierMill mill = new Filer().method(INT, NO_TYPES, 0, 1, code).loaded();
        mill.start(0, 0, 0, 0);
        mill.run(9);
        check.due(what, want, mill.result(1));
    }

    private static void numbers() {
        check.says("b: a byte with its sign");
        for (int b = 0; b <= 255; b++) {
            gives("0 " + b, b < 128 ? b : b - 256, 0, b, 50);
        }
        check.says("w: two bytes, the higher one first, with its sign");
        int[] bytes = {0, 1, 2, 126, 127, 128, 129, 254, 255};
        for (int high : bytes) {
            for (int low : bytes) {
                int word = 256 * high + low;
                gives("1 " + high + " " + low, word < 32768 ? word : word - 65536, 1, high, low, 50);
            }
        }
    }

    // ---- an INSTRUCTION that is none

    private static void unknown() {
        check.says("an unknown byte");
        for (int op = 54; op <= 255; op++) {
            wrong("byte " + op, 0, op, 49);
            wrong("byte " + op + " behind others", 3, 2, 0, 7, op);
        }
        for (int op = 0; op <= 52; op++) {
            named("byte " + op, Filer.join(Filer.join(code(op), new int[TOLD[op]]), code(49)));
        }
        named("byte 53", 53, 1, 0, 0);
        check.says("one that is none begins at its PLACE all the same");
        wrong("on at an unknown byte", 2, 21, 2, 54);
        wrong("on at one whose bytes are not there", 2, 21, 2, 1, 0);
        check.says("behind either of these none begins");
        wrong("on behind an unknown byte", 0, 21, 3, 54, 49);
        wrong("on behind an unknown byte by 53", 1, 2, 53, 1, 1, 6, 54, 49);
        wrong("the unknown byte itself", 3, 2, 21, 3, 54, 255, 0);
        wrong("on within one whose bytes are not there", 0, 21, 3, 1, 49);
        for (int op = 54; op <= 255; op++) {
            wrong("byte " + op + " with others behind it", 0, op, 0, 0, 49);
            for (int behind = 3; behind <= 8; behind++) {
                int[] others = Filer.join(code(21, behind, op), filled(behind - 3, 2));
                wrong("on " + (behind - 2) + " behind byte " + op, 0, Filer.join(others, code(49, 49)));
            }
            // As if its length were told as that of a 53.
            wrong("on behind byte " + op + " and 2 bytes", 0, 21, 5, op, 0, 0, 49);
        }
    }

    private static void endsAhead() {
        check.says("or the CODE ends ahead of what is told");
        for (int op = 0; op <= 52; op++) {
            for (int there = 0; there < TOLD[op]; there++) {
                wrong(op + " with " + there + " bytes", 0, Filer.join(code(op), new int[there]));
                wrong(op + " with " + there + " bytes behind others", 1, Filer.join(code(2, op), new int[there]));
            }
        }
        for (int n = 1; n <= 8; n++) {
            for (int there = 0; there <= n; there++) {
                wrong("53 with " + there + " PLACES for " + n, 0, Filer.join(code(53, n), new int[there]));
            }
            named("53 with all PLACES for " + n, Filer.join(code(53, n), new int[n + 1]));
        }
        wrong("53 alone", 0, 53);
        wrong("53 alone behind others", 2, 0, 0, 53);
    }

    private static void otherN() {
        check.says("a 53 with another n, a byte without sign, is as long as that tells");
        check.says("names a LOCAL, class, FIELD, METHOD, SELECTOR or n that there is not");
        wrong("n 0", 0, 53, 0, 0, 49);
        wrong("n 0 has one PLACE: behind it one begins", 2, 21, 5, 53, 0, 0, 49);
        wrong("n 0 has one PLACE: within it none begins", 0, 21, 4, 53, 0, 49, 49);
        for (int n = 9; n <= 114; n++) {
            int behind = 2 + n + 3;
            int[] long53 = Filer.join(code(21, behind, 53, n), Filer.join(filled(n + 1, 0), code(49)));
            wrong("n " + n, 2, long53);
            long53[1] = behind - 1;
            wrong("within n " + n, 0, long53);
        }
        int[] most = Filer.join(code(53, 117), filled(118, 0));
        check.due("a CODE of a 53 alone", 120, most.length);
        wrong("n 117 fills the CODE", 0, most);
        most[1] = 118;
        wrong("n 118 is longer than the CODE", 0, most);
        for (int n = 115; n <= 255; n++) {
            wrong("n " + n + " is longer than what is left", 2, Filer.join(code(21, 2, 53, n), filled(116, 49)));
            wrong("on behind n " + n, 0, Filer.join(code(21, 4, 53, n), filled(116, 49)));
        }
        for (int n = 1; n <= 8; n++) {
            named("n " + n, Filer.join(code(53, n), new int[n + 1]));
        }
    }

    // ---- what it names

    private static void names(String what, int there, int[] ahead, int... behind) {
        for (int name = 0; name <= 255; name++) {
            int[] code = Filer.join(Filer.join(ahead, code(name)), Filer.join(behind, code(49)));
            if (name < there) {
                named(what + " " + name, code);
            } else {
                wrong(what + " " + name, 0, code);
            }
        }
    }

    private static void namesWhatThereIsNot() {
        check.says("names a LOCAL, class, FIELD, METHOD, SELECTOR or n that there is not");
        names("LOCAL of 3", 3, code(3));
        names("LOCAL of 4", 3, code(4));
        names("LOCAL of 20", 3, code(20), 1);
        names("class of 38", 3, code(38));
        names("class of 45", 3, code(45));
        names("class of 46", 3, code(46));
        names("FIELD of class 0 of 39", 2, code(39, 0));
        names("FIELD of class 1 of 39", 3, code(39, 1));
        names("FIELD of class 2 of 39", 0, code(39, 2));
        names("FIELD of class 0 of 40", 2, code(40, 0));
        names("FIELD of class 1 of 40", 3, code(40, 1));
        names("FIELD of class 2 of 40", 0, code(40, 2));
        names("class of 39 for FIELD 0", 2, code(39), 0);
        names("class of 40 for FIELD 0", 2, code(40), 0);
        names("METHOD of 47", 3, code(47));
        names("SELECTOR of 48", 2, code(48));
        wrongWithout();
        withTheMost();
        TierMill mill = new Filer().method(0, NO_TYPES, 8, 1, 0, 1, 4, 7, 49).loaded();
        check.due("LOCAL 7 of 8", INT, mill.kind(0, 4, 7));
    }

    /** Without any LOCAL, class or SELECTOR even the first one is not there. */
    private static void wrongWithout() {
        int[][] codes = {{3, 0, 49}, {4, 0, 49}, {20, 0, 1, 49}, {38, 0, 49}, {39, 0, 0, 49}, {40, 0, 0, 49},
            {45, 0, 49}, {46, 0, 49}, {48, 0, 49}, {47, 1, 49}};
        for (int[] code : codes) {
            wrongFile("none there: " + code[0], 0, new Filer().method(0, NO_TYPES, 0, 8, code));
        }
    }

    /** With as many of all as there may be the last one is there, the next one is not. */
    private static void withTheMost() {
        int[][] named = {{3, 7}, {4, 7}, {20, 7, 1}, {38, 7}, {39, 7, 7}, {40, 7, 7}, {45, 7}, {46, 7}, {47, 15}, {48, 7}};
        for (int[] op : named) {
            for (int at = 1; at < op.length && (at == 1 || op[0] != 20); at++) {
                for (int more = 0; more < 2; more++) {
                    int[] code = Filer.join(op, code(49));
                    code[at] += more;
                    Filer file = new Filer().cls(-1, INT, INT, INT, INT).cls(0, INT, INT, INT, INT);
                    for (int c = 2; c < 8; c++) {
                        file.cls(1);
                    }
                    for (int k = 0; k < 8; k++) {
                        file.sel(0);
                    }
                    file.method(0, NO_TYPES, 8, 8, code);
                    for (int m = 1; m < 16; m++) {
                        file.method(0, NO_TYPES, 0, 0, 49);
                    }
                    for (int c = 0; c < 8; c++) {
                        file.row(-1, -1, -1, -1, -1, -1, -1, -1);
                    }
                    String what = op[0] + " names " + code[at];
                    if (more == 1) {
                        wrongFile(what, 0, file);
                    } else {
                        TierMill mill = new TierMill();
                        Filer.putAll(mill, file.bytes());
                        Check.answered(mill::load);
                        check.due(what + " is no FAULT 2", 3, mill.fault(0) == 0 ? 3 : mill.fault(0));
                    }
                }
            }
        }
    }

    // ---- where it goes on

    private static void places() {
        check.says("goes on at a PLACE where none begins");
        int[] ahead = {2, 1, 0, 0};
        for (int op = 21; op <= 37; op++) {
            for (int p = 0; p <= 255; p++) {
                int[] all = Filer.join(Filer.join(ahead, code(op, p)), code(20, 0, 1, 49));
                boolean begins = p == 0 || p == 1 || p == 4 || p == 6 || p == 9;
                if (begins) {
                    named(op + " on at " + p, all);
                } else {
                    wrong(op + " on at " + p, 4, all);
                }
            }
        }
        for (int n = 1; n <= 8; n++) {
            for (int which = 0; which <= n; which++) {
                int[] all = Filer.join(code(2, 53, n), Filer.join(filled(n + 1, 1), code(49)));
                all[3 + which] = 4 + n;
                named("PLACE " + which + " of 53 " + n, all);
                all[3 + which] = 2;
                wrong("PLACE " + which + " of 53 " + n, 1, all);
                all[3 + which] = 5 + n;
                wrong("PLACE " + which + " of 53 " + n + " behind the CODE", 1, all);
            }
        }
        int[] longest = filled(120, 49);
        longest[0] = 21;
        longest[1] = 119;
        named("on at PLACE 119", longest);
        longest[1] = 120;
        wrong("on at PLACE 120 of 120", 0, longest);
        wrong("on behind the CODE, where METHOD 1 has its own", 0, 21, 8, 49);
    }

    // ---- how it ends

    private static void ends() {
        check.says("or ends the CODE without being 21, 49, 50, 53");
        for (int op = 0; op <= 52; op++) {
            int[] last = Filer.join(code(49, op), new int[TOLD[op]]);
            if (op == 21 || op == 49 || op == 50) {
                named("ends with " + op, last);
            } else {
                wrong("ends with " + op, 1, last);
            }
        }
        named("ends with 53", 49, 53, 1, 0, 0);
        named("ends with 53 of 8", 49, 53, 8, 0, 0, 0, 0, 0, 0, 0, 0, 0);
    }

    // ---- which one is told

    private static void eachIsLookedAt() {
        check.says("(All INSTRUCTIONS are looked at;");
        wrong("behind a return", 1, 49, 3, 9, 49);
        wrong("that a jump goes over", 2, 21, 4, 47, 3, 49);
        check.says("of the least METHOD that has one the least PLACE of an INSTRUCTION that is none");
        wrong("two of them", 1, 2, 3, 3, 3, 3, 49);
        wrong("a wrong name ahead of an unknown byte", 0, 38, 3, 54);
        wrong("a wrong PLACE ahead of an unknown byte", 0, 21, 1, 54);
        TierMill mill = new TierMill();
        int[] file = new Filer().method(0, NO_TYPES, 0, 0, 49).method(0, NO_TYPES, 0, 0, 49, 49, 54)
            .method(0, NO_TYPES, 0, 0, 54).bytes();
        Filer.putAll(mill, file);
        check.due("METHODS 1 and 2", Check.ARGUMENT, mill::load);
        check.due("kind", 2, mill.fault(0));
        check.due("PLACE", 2, mill.fault(1));
        check.due("METHOD 1", 1, mill.fault(2));
    }

    private static void lastMethod() {
        check.says("of the least METHOD that has one the least PLACE");
        for (int m = 0; m < 16; m++) {
            Filer file = new Filer();
            for (int k = 0; k < 16; k++) {
                file.method(0, NO_TYPES, 0, 0, k < m ? code(49) : code(49, 54));
            }
            TierMill mill = new TierMill();
            Filer.putAll(mill, file.bytes());
            check.due("load", Check.ARGUMENT, mill::load);
            check.due("METHOD " + m, m, mill.fault(2));
            check.due("PLACE", 1, mill.fault(1));
        }
    }

    private static void kindsOfFaults() {
        check.says("VERIFYING (if no METHOD has a FAULT 2)");
        TierMill mill = new TierMill();
        int[] file = new Filer().method(0, NO_TYPES, 0, 0, 5, 49).method(0, NO_TYPES, 0, 0, 49, 54).bytes();
        Filer.putAll(mill, file);
        check.due("load", Check.ARGUMENT, mill::load);
        check.due("FAULT 2 of METHOD 1 is ahead of FAULT 3 of METHOD 0", 2, mill.fault(0));
        check.due("its METHOD", 1, mill.fault(2));
        Filer.putAll(mill, Filer.join(file, code(0)));
        check.due("load", Check.ARGUMENT, mill::load);
        check.due("FAULT 1 is ahead of both", 1, mill.fault(0));
        check.due("its byte", file.length, mill.fault(1));
        check.due("no METHOD", 0, mill.fault(2));
        file[file.length - 1] = 49;
        Filer.putAll(mill, file);
        check.due("load", Check.ARGUMENT, mill::load);
        check.due("FAULT 3", 3, mill.fault(0));
        check.due("its PLACE", 0, mill.fault(1));
        check.due("its METHOD", 0, mill.fault(2));
    }

    public static void main(String[] args) {
        numbers();
        unknown();
        endsAhead();
        otherN();
        namesWhatThereIsNot();
        places();
        ends();
        eachIsLookedAt();
        lastMethod();
        kindsOfFaults();
        check.end();
    }
}
