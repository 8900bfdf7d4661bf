/** The edges of VERIFYING, of FAULT 3 and of kind(): a test of its own for each sentence that names one. */
final class EdgeVerifyTest {
    private static final int INT = 1, ARRAY = 2, NULL = 3, REF = 16;
    private static final int[] NO_TYPES = {};
    private static final String ALL = Coder.KINDS;
    private static final String BUT_NO = "IANY01234";
    private static final Check check = new Check();

    /**
     * Classes 1 and 4 below 0, 2 below 1, 3 apart; class 1 has FIELDS INT, ARRAY, REF 1. SELECTOR 0 (INT, ARRAY, REF 1)
     * and SELECTOR 1 () are had by class 1 (and so 2); SELECTOR 2 () RETURNS REF 2, SELECTOR 3 () INT.
     */
    private static Filer filer(int returns, int locals, int stack, int[] code) {
        return new Filer().cls(-1).cls(0, INT, ARRAY, REF + 1).cls(1).cls(-1).cls(0)
            .sel(0, INT, ARRAY, REF + 1).sel(0).sel(REF + 2).sel(INT)
            .method(returns, NO_TYPES, locals, stack, code)
            .method(0, Filer.types(INT), 1, 0, 49)
            .method(0, Filer.types(ARRAY), 1, 0, 49)
            .method(0, Filer.types(REF + 1), 1, 0, 49)
            .method(0, Filer.types(INT, ARRAY, REF + 1, INT), 4, 0, 49)
            .method(0, Filer.types(REF + 1, INT, ARRAY, REF + 1), 4, 0, 49)
            .method(REF + 2, Filer.types(REF + 1), 1, 1, 2, 50)
            .method(INT, Filer.types(REF + 1), 1, 1, 0, 1, 50)
            .method(ARRAY, NO_TYPES, 0, 1, 2, 50)
            .row(-1, -1, -1, -1).row(5, 3, 6, 7).row(-1, -1, -1, -1).row(-1, -1, -1, -1).row(-1, -1, -1, -1);
    }

    private static final int METHODS = 9;

    /** A new object, and one that had other FILES before. */
    private static TierMill[] objects() {
        return new TierMill[] {new TierMill(), Busy.used()};
    }

    private static TierMill loaded(Filer file) {
        TierMill mill = Busy.used();
        file.loadInto(mill);
        return mill;
    }

    private static void right(String what, Filer file) {
        for (TierMill mill : objects()) {
            check.due(what, METHODS, () -> file.loadInto(mill));
        }
    }

    private static void wrong(String what, int place, Filer file) {
        for (TierMill mill : objects()) {
            Filer.putAll(mill, file.bytes());
            check.due(what + ": load", Check.ARGUMENT, mill::load);
            check.due(what + ": fault(0)", 3, mill.fault(0));
            check.due(what + ": fault(1)", place, mill.fault(1));
            check.due(what + ": fault(2)", 0, mill.fault(2));
        }
    }

    private static void judged(String what, boolean fit, int place, Filer file) {
        if (fit) {
            right(what, file);
        } else {
            wrong(what, place, file);
        }
    }

    // ---- what is FIT

    /** The INSTRUCTION's bytes; -1 stands for the PLACE behind it. */
    private static int[] behind(int[] op, int place) {
        int[] all = op.clone();
        for (int i = 0; i < all.length; i++) {
            all[i] = all[i] < 0 ? place + all.length : all[i];
        }
        return all;
    }

    private static void operands(String kinds, boolean fit, int... op) {
        Coder coder = new Coder().leave(kinds, -1);
        int place = coder.place();
        coder.add(behind(op, place)).add(49);
        judged(op[0] + " of " + kinds, fit, place, filer(0, 3, 8, coder.code()));
    }

    private static void fit(String kinds, int... op) {
        for (char kind : ALL.toCharArray()) {
            operands("" + kind, kinds.indexOf(kind) >= 0, op);
        }
    }

    private static void fitTwo(String first, String second, int... op) {
        for (char x : ALL.toCharArray()) {
            for (char y : ALL.toCharArray()) {
                operands("" + x + y, first.indexOf(x) >= 0 && second.indexOf(y) >= 0, op);
            }
        }
    }

    /** One operand after the other has each KIND, while the others are right. */
    private static void fitMany(String[] kinds, int... op) {
        for (int which = 0; which < kinds.length; which++) {
            for (char kind : ALL.toCharArray()) {
                StringBuilder all = new StringBuilder();
                for (int i = 0; i < kinds.length; i++) {
                    all.append(i == which ? kind : kinds[i].charAt(0));
                }
                operands(all.toString(), kinds[which].indexOf(kind) >= 0, op);
            }
        }
    }

    private static void ints() {
        check.says("x, y, i of 8 .. 33, 41 .. 43, 51, 53 (but x of 42, 43), the LOCAL of 20: INT");
        for (int op = 8; op <= 18; op++) {
            fitTwo("I", "I", op);
        }
        fit("I", 19);
        for (int op = 22; op <= 27; op++) {
            fit("I", op, -1);
        }
        for (int op = 28; op <= 33; op++) {
            fitTwo("I", "I", op, -1);
        }
        fit("I", 41);
        fit("I", 51);
        fit("I", 53, 1, -1, -1);
        check.says("x of 42 .. 44: as ARRAY");
        fitTwo("AN", "I", 42);
        fitMany(new String[] {"AN", "I", "I"}, 43);
        fitMany(new String[] {"NA", "I", "I"}, 43);
        fit("AN", 44);
    }

    private static void references() {
        check.says("of 34 .. 37: any but INT and NO (of 36, 37 both, and not an ARRAY and an ANY or REF)");
        fit("ANY01234", 34, -1);
        fit("ANY01234", 35, -1);
        for (int op = 36; op <= 37; op++) {
            for (char x : ALL.toCharArray()) {
                for (char y : ALL.toCharArray()) {
                    boolean fit = "IX".indexOf(x) < 0 && "IX".indexOf(y) < 0;
                    fit &= x != 'A' || "AN".indexOf(y) >= 0;
                    fit &= y != 'A' || "AN".indexOf(x) >= 0;
                    operands("" + x + y, fit, op, -1);
                }
            }
        }
        check.says("of 45, 46: any but INT, ARRAY, NO");
        for (int c = 0; c < 5; c++) {
            fit("NY01234", 45, c);
            fit("NY01234", 46, c);
        }
        check.says("of 39, 40: as REF c; y of 40: as the FIELD's TYPE");
        for (int f = 0; f < 3; f++) {
            fit("N12", 39, 1, f);
            fit("N2", 39, 2, f);
        }
        fitTwo("N12", "I", 40, 1, 0);
        fitTwo("N12", "AN", 40, 1, 1);
        fitTwo("N12", "N12", 40, 1, 2);
        fitTwo("N2", "N12", 40, 2, 2);
        check.says("of 3 to 7: any but NO");
        fit(BUT_NO, 4, 0);
        fit(BUT_NO, 5);
        fit(BUT_NO, 6);
        fitTwo(BUT_NO, BUT_NO, 7);
    }

    private static void calls() {
        check.says("the PARAMETERS of 47, 48: as their TYPES");
        fit("I", 47, 1);
        fit("AN", 47, 2);
        fit("N12", 47, 3);
        fitMany(new String[] {"I", "AN", "1N2", "I"}, 47, 4);
        fitMany(new String[] {"I", "NA", "2N1", "I"}, 47, 4);
        fitMany(new String[] {"12", "I", "AN", "12N"}, 48, 0);
        fitMany(new String[] {"21", "I", "NA", "N12"}, 48, 0);
        check.says("x of 48: a REF whose class has a METHOD for the SELECTOR");
        for (int s = 1; s < 4; s++) {
            fit("12", 48, s);
        }
    }

    /** 50 in a METHOD that RETURNS this TYPE. */
    private static void returned(String kinds, int type) {
        for (char kind : ALL.toCharArray()) {
            Coder coder = new Coder().push(kind);
            int place = coder.place();
            judged("50 of " + kind + " for TYPE " + type, kinds.indexOf(kind) >= 0, place,
                filer(type, 3, 8, coder.add(50).code()));
        }
        judged("49 for TYPE " + type, type == 0, 0, filer(type, 0, 0, Filer.types(49)));
        judged("49 for TYPE " + type + " with a STACK", type == 0, 1, filer(type, 0, 1, Filer.types(2, 49)));
    }

    private static void returns() {
        check.says("of 50: as the TYPE that is RETURNED, which must not be 0 (of 49: must be)");
        returned("I", INT);
        returned("AN", ARRAY);
        returned("N0124", REF);
        returned("N12", REF + 1);
        returned("N2", REF + 2);
        returned("N3", REF + 3);
        returned("", 0);
        check.says("A KIND is FIT as a TYPE, if it is that, NULL (but for INT), or a REF for a REF of a class that "
            + "its own is BELOW.");
        fit("N12", 47, 3);
        fit("I", 47, 1);
    }

    private static void locals() {
        check.says("or a LOCAL that it reads, is not FIT");
        for (char kind : ALL.toCharArray()) {
            Coder coder = new Coder();
            if (kind == 'X') {
                coder.either("I", "N", 2);
            } else {
                coder.push(kind).add(4, 2);
            }
            int place = coder.place();
            int[] ahead = coder.code();
            judged("3 of LOCAL " + kind, kind != 'X', place, filer(0, 3, 8, Filer.join(ahead, Filer.types(3, 2, 49))));
            judged("20 of LOCAL " + kind, kind == 'I', place,
                filer(0, 3, 8, Filer.join(ahead, Filer.types(20, 2, 1, 49))));
            judged("4 to LOCAL " + kind, true, place, filer(0, 3, 8, Filer.join(ahead, Filer.types(2, 4, 2, 49))));
        }
        wrong("3 of a LOCAL that is set later", 0, filer(0, 3, 8, Filer.types(3, 2, 5, 0, 1, 4, 2, 49)));
        wrong("20 of a LOCAL that is set later", 0, filer(0, 3, 8, Filer.types(20, 2, 1, 0, 1, 4, 2, 49)));
        right("3 of a LOCAL that is NO later", filer(0, 3, 8, new Coder().push('I').add(4, 2, 3, 2, 5)
            .either("I", "N", 2).add(49).code()));
        wrong("3 of a LOCAL that was never set", 0, filer(0, 3, 8, Filer.types(3, 2, 49)));
        wrong("20 of a LOCAL that was never set", 0, filer(0, 3, 8, Filer.types(20, 2, 1, 49)));
    }

    // ---- the STACK

    /** How many each INSTRUCTION takes and puts; the bytes that follow it. */
    private static final int[][] STACKED = {
        {0, 0, 1, 7}, {1, 0, 1, 7, 7}, {2, 0, 1}, {3, 0, 1, 0}, {4, 1, 0, 0}, {5, 1, 0}, {6, 1, 2}, {7, 2, 2},
        {8, 2, 1}, {11, 2, 1}, {18, 2, 1}, {19, 1, 1}, {22, 1, 0, -1}, {27, 1, 0, -1}, {28, 2, 0, -1}, {33, 2, 0, -1},
        {41, 1, 1}, {51, 1, 0}, {52, 0, 1}, {53, 1, 0, 1, -1, -1}, {38, 0, 1, 0}, {47, 1, 0, 1}, {47, 0, 1, 8}};

    private static Filer stacked(int there, int most, int[] row) {
        int[] op = Filer.join(Filer.types(row[0]), java.util.Arrays.copyOfRange(row, 3, row.length));
        Coder coder = new Coder().add(0, 5, 4, 0);
        for (int i = 0; i < there; i++) {
            coder.push('I');
        }
        return filer(0, 3, most, coder.add(behind(op, coder.place())).add(49).code());
    }

    private static void heights() {
        for (int[] row : STACKED) {
            int takes = row[1];
            int puts = row[2];
            check.says("takes more than there is");
            for (int there = 0; there <= 4; there++) {
                judged(row[0] + " of " + there, there >= takes, 4 + 2 * there, stacked(there, 8, row));
            }
            check.says("the STACK would have more than it may");
            for (int there = Math.max(takes, 1); there <= 8; there++) {
                int after = there - takes + puts;
                judged(row[0] + " on " + there + " of " + there, after <= there, 4 + 2 * there,
                    stacked(there, there, row));
                if (there < 8) {
                    right(row[0] + " on " + there + " of " + (there + 1), stacked(there, there + 1, row));
                }
            }
        }
        wrong("0 on a STACK of none", 0, filer(0, 1, 0, Filer.types(0, 1, 49)));
        wrong("42 of one", 2, filer(0, 1, 8, Filer.types(0, 1, 42, 49)));
        wrong("43 of two", 3, filer(0, 1, 8, Filer.types(2, 0, 1, 43, 49)));
        wrong("44 of none", 0, filer(0, 1, 8, Filer.types(44, 49)));
        wrong("39 of none", 0, filer(0, 1, 8, Filer.types(39, 1, 0, 49)));
        wrong("40 of one", 1, filer(0, 1, 8, Filer.types(2, 40, 1, 1, 49)));
        wrong("34 of none", 0, filer(0, 1, 8, Filer.types(34, 2, 49)));
        wrong("36 of one", 1, filer(0, 1, 8, Filer.types(2, 36, 3, 49)));
        wrong("45 of none", 0, filer(0, 1, 8, Filer.types(45, 0, 49)));
        wrong("46 of none", 0, filer(0, 1, 8, Filer.types(46, 0, 49)));
        wrong("50 of none", 0, filer(INT, 1, 8, Filer.types(50)));
        wrong("48 of none", 0, filer(0, 1, 8, Filer.types(48, 1, 49)));
        wrong("48 of x alone", 2, filer(0, 1, 8, Filer.types(38, 1, 48, 0, 49)));
        wrong("47 of three", 5, filer(0, 1, 8, Filer.types(0, 1, 2, 0, 1, 47, 4, 49)));
        right("48 that RETURNS on a full STACK", filer(0, 1, 1, Filer.types(38, 1, 48, 2, 49)));
    }

    /** SELECTORS s and 7 - s and METHOD 5 + s have s PARAMETERS; all RETURN INT. */
    private static Filer shaped(int... code) {
        Filer file = new Filer().cls(-1);
        int[][] some = {{}, {INT}, {INT, INT}, {INT, INT, INT}};
        for (int s = 0; s < 8; s++) {
            file.sel(INT, some[Math.min(s, 7 - s)]);
        }
        file.method(0, NO_TYPES, 1, 8, code);
        for (int[] params : some) {
            file.method(INT, Filer.join(new int[] {REF}, params), 4, 1, 0, 1, 50);
        }
        for (int[] params : some) {
            file.method(INT, params, 4, 1, 0, 1, 50);
        }
        return file.row(1, 2, 3, 4, 4, 3, 2, 1);
    }

    private static void takesAsMany() {
        check.says("the METHOD's PARAMETERS (the last one on top) >, it is called");
        check.says("x, the SELECTOR's PARAMETERS >");
        for (int there = 0; there <= 3; there++) {
            for (int s = 0; s < 8; s++) {
                takes(there, Math.min(s, 7 - s), 48, s);
            }
            for (int m = 5; m <= 8; m++) {
                takes(there, m - 5, 47, m);
            }
        }
    }

    private static void takes(int there, int params, int op, int named) {
        Coder coder = new Coder().add(0, 1, 4, 0).add(op == 48 ? new int[] {38, 0} : new int[0]);
        for (int i = 0; i < there; i++) {
            coder.push('I');
        }
        // Behind another INSTRUCTION, whose last byte tells another one.
        int place = coder.add(20, 0, named + 1 & 7).place();
        int[] code = coder.add(op, named, 49).code();
        takesOf(op + " " + named + " of " + there, shaped(code), place, there - params, op);
    }

    /** So many more INTS than PARAMETERS are there; below 0 it is WRONG, and a 48 must find x below them. */
    private static void takesOf(String what, Filer file, int place, int more, int op) {
        TierMill mill = Busy.used();
        Filer.putAll(mill, file.bytes());
        boolean fit = op == 47 ? more >= 0 : more == 0;
        check.due(what, fit ? 9 : Check.ARGUMENT, mill::load);
        check.due(what + ": fault(0)", fit ? 0 : 3, mill.fault(0));
        check.due(what + ": fault(1)", fit ? 0 : place, mill.fault(1));
        if (fit) {
            check.due(what + ": the STACK behind it", INT, mill.kind(0, place + 2, 100 + more));
            check.due(what + ": no more", -1, mill.kind(0, place + 2, 101 + more));
        }
    }

    // ---- KINDS behind

    private static void behindIs(String what, String kinds, char want, int... op) {
        Coder coder = new Coder().add(0, 5, 4, 1).push('A').leave(kinds, -1);
        int at = coder.place() + op.length;
        TierMill mill = loaded(filer(0, 3, 8, coder.add(op).add(49).code()));
        check.due(what, Coder.number(want), mill.kind(0, at, 101));
        check.due(what + ": no more", -1, mill.kind(0, at, 102));
        check.due(what + ": what is below it stays", ARRAY, mill.kind(0, at, 100));
        check.due(what + ": a LOCAL stays", INT, mill.kind(0, at, 1));
        check.due(what + ": a LOCAL stays NO", 0, mill.kind(0, at, 0));
    }

    private static void kindsBehind() {
        check.says("0, 1, 8 .. 19, 42, 44, 45, 52: INT, 2: NULL");
        behindIs("0", "", 'I', 0, 255);
        behindIs("1", "", 'I', 1, 255, 255);
        for (int op = 8; op <= 18; op++) {
            behindIs("" + op, "II", 'I', op);
        }
        behindIs("19", "I", 'I', 19);
        behindIs("42", "NI", 'I', 42);
        behindIs("44", "A", 'I', 44);
        behindIs("45", "3", 'I', 45, 0);
        behindIs("52", "", 'I', 52);
        behindIs("2", "", 'N', 2);
        check.says("38, 46: REF c, 39: the FIELD's TYPE, 41: ARRAY, 47, 48: what is RETURNED");
        for (char c = '0'; c <= '4'; c++) {
            behindIs("38 " + c, "", c, 38, c - '0');
            for (char of : "NY01234".toCharArray()) {
                behindIs("46 " + c + " of " + of, "" + of, c, 46, c - '0');
            }
        }
        behindIs("39 1 0", "1", 'I', 39, 1, 0);
        behindIs("39 1 1", "2", 'A', 39, 1, 1);
        behindIs("39 1 2", "N", '1', 39, 1, 2);
        behindIs("39 2 2", "2", '1', 39, 2, 2);
        behindIs("41", "I", 'A', 41);
        behindIs("47 that RETURNS an ARRAY", "", 'A', 47, 8);
        behindIs("47 that RETURNS REF 2", "2", '2', 47, 6);
        behindIs("48 that RETURNS REF 2", "1", '2', 48, 2);
        behindIs("48 that RETURNS INT", "2", 'I', 48, 3);
        behindIs("47 that RETURNS nothing", "II", 'I', 47, 1);
        behindIs("48 that RETURNS nothing", "41", '4', 48, 1);
    }

    private static void kindsThatWere() {
        check.says("3, 6, 7: those that were");
        for (char kind : BUT_NO.toCharArray()) {
            behindIs("6 of " + kind + " and 5", "" + kind, kind, 6, 5);
            behindIs("5 of " + kind, "I" + kind, 'I', 5);
            for (char other : BUT_NO.toCharArray()) {
                behindIs("7 of " + other + " and " + kind + ", 5", "" + other + kind, kind, 7, 5);
            }
            Coder coder = new Coder().push(kind).add(4, 2, 3, 2, 6);
            TierMill mill = loaded(filer(0, 3, 8, coder.add(49).code()));
            int at = coder.place() - 1;
            check.due("3 of " + kind, Coder.number(kind), mill.kind(0, at - 1, 100));
            check.due("6 of " + kind + ": the lower one", Coder.number(kind), mill.kind(0, at, 100));
            check.due("6 of " + kind + ": the upper one", Coder.number(kind), mill.kind(0, at, 101));
            check.says("the LOCAL of 4 becomes x's KIND");
            check.due("4 of " + kind, Coder.number(kind), mill.kind(0, at, 2));
            check.says("3, 6, 7: those that were");
        }
    }

    private static void swapped() {
        check.says("7: x, y > y, x");
        for (char x : BUT_NO.toCharArray()) {
            for (char y : BUT_NO.toCharArray()) {
                Coder two = new Coder().push(x).push(y).add(7, 49);
                TierMill alone = loaded(filer(0, 3, 8, two.code()));
                check.due("the lower one alone", Coder.number(y), alone.kind(0, two.place() - 1, 100));
                check.due("the upper one alone", Coder.number(x), alone.kind(0, two.place() - 1, 101));
                Coder coder = new Coder().push('4').push(x).push(y).add(7, 49);
                TierMill mill = loaded(filer(0, 3, 8, coder.code()));
                int at = coder.place() - 1;
                check.due("below both", Coder.number('4'), mill.kind(0, at, 100));
                check.due("7 of " + x + " and " + y + ": the lower one", Coder.number(y), mill.kind(0, at, 101));
                check.due("7 of " + x + " and " + y + ": the upper one", Coder.number(x), mill.kind(0, at, 102));
            }
        }
    }

    /** A full STACK of different KINDS, taken from the top and filled again with others. */
    private static void deep() {
        check.says("Behind an INSTRUCTION there is what was before, less what it takes, and what it puts");
        String[] fills = {"INA43210", "01234ANI", "44444444", "IIIIIIII", "4I3A2N1I"};
        for (String first : fills) {
            for (String second : fills) {
                for (int keep = 0; keep < 8; keep++) {
                    Coder coder = new Coder().leave(first, -1);
                    for (int i = keep; i < 8; i++) {
                        coder.add(5);
                    }
                    int low = coder.place();
                    coder.leave(second.substring(keep), -1);
                    TierMill mill = loaded(filer(0, 3, 8, coder.add(49).code()));
                    String all = first.substring(0, keep) + second.substring(keep);
                    for (int i = 0; i < 8; i++) {
                        int lower = i < keep ? Coder.number(first.charAt(i)) : -1;
                        check.due(first + " to " + keep + ": " + i, lower, mill.kind(0, low, 100 + i));
                        check.due(all + ": " + i, Coder.number(all.charAt(i)), mill.kind(0, coder.place() - 1, 100 + i));
                    }
                }
            }
        }
    }

    /** Eight LOCALS of different KINDS, one of which is set anew. */
    private static void eightLocals() {
        check.says("the LOCAL of 4 becomes x's KIND");
        String first = "IANY4321";
        for (int which = 0; which < 8; which++) {
            for (char kind : BUT_NO.toCharArray()) {
                Coder coder = new Coder();
                for (int i = 0; i < 8; i++) {
                    coder.leave("" + first.charAt(i), i);
                }
                coder.leave("" + kind, which);
                TierMill mill = loaded(filer(0, 8, 8, coder.add(49).code()));
                for (int i = 0; i < 8; i++) {
                    check.due("LOCAL " + i, Coder.number(i == which ? kind : first.charAt(i)),
                        mill.kind(0, coder.place() - 1, i));
                }
            }
        }
    }

    // ---- where ways come together

    private static final String[] JOINED = {
        "IXXXXXXXXX",
        "XAAXXXXXXX",
        "XANY01234X",
        "XXYYYYYYYX",
        "XX0Y000Y0X",
        "XX1Y011Y0X",
        "XX2Y012Y0X",
        "XX3YYYY3YX",
        "XX4Y000Y4X",
        "XXXXXXXXXX"};

    private static void joins() {
        check.says("of the same KIND that; of NULL and ARRAY, ANY or REF the other one; of two of REF, ANY: REF of "
            + "the lowest class that both are or are BELOW, ANY without one; else NO.");
        for (int a = 0; a < 9; a++) {
            for (int b = 0; b < 9; b++) {
                String one = "" + ALL.charAt(a);
                String other = "" + ALL.charAt(b);
                int want = Coder.number(JOINED[a].charAt(b));
                Coder local = new Coder().either(one, other, 2);
                TierMill mill = loaded(filer(0, 3, 8, local.add(49).code()));
                check.due("LOCAL of " + one + " and " + other, want, mill.kind(0, local.place() - 1, 2));
                Coder stack = new Coder().push('I').either(one, other, -1);
                mill = loaded(filer(0, 3, 8, stack.add(49).code()));
                check.due("STACK of " + one + " and " + other, want, mill.kind(0, stack.place() - 1, 101));
            }
        }
        for (char kind : BUT_NO.toCharArray()) {
            Coder unset = new Coder().add(52, 22, 0).leave("" + kind, 2);
            unset.code()[2] = unset.place();
            TierMill mill = loaded(filer(0, 3, 8, unset.add(49).code()));
            check.due("LOCAL of " + kind + " and one that was not set", 0, mill.kind(0, unset.place() - 1, 2));
        }
    }

    private static void beginning() {
        check.says("At PLACE 0 the STACK is empty, the first LOCALS have the PARAMETERS' TYPES, the others NO.");
        TierMill mill = loaded(new Filer().cls(-1).cls(0)
            .method(0, Filer.types(ARRAY, REF + 1, INT, REF), 8, 8, 49).method(0, NO_TYPES, 8, 8, 49));
        int[] want = {ARRAY, REF + 1, INT, REF, 0, 0, 0, 0, -1};
        for (int i = 0; i < 9; i++) {
            check.due("LOCAL " + i, want[i], mill.kind(0, 0, i));
            check.due("LOCAL " + i + " of METHOD 1", i < 8 ? 0 : -1, mill.kind(1, 0, i));
            check.due("STACK " + i, -1, mill.kind(0, 0, 100 + i));
        }
        check.says("Where several ways come together (at PLACE 0 the beginning, too)");
        mill = loaded(new Filer().cls(-1).cls(0).cls(0)
            .method(0, Filer.types(INT, ARRAY, REF + 1, REF + 1), 5, 1,
                2, 4, 0, 2, 4, 1, 2, 4, 2, 38, 2, 4, 3, 2, 4, 4, 21, 0));
        int[] joined = {0, ARRAY, REF + 1, REF, 0};
        for (int i = 0; i < 5; i++) {
            check.due("LOCAL " + i + " at PLACE 0", joined[i], mill.kind(0, 0, i));
        }
        wrong("back at PLACE 0 with one on the STACK", 0, filer(0, 1, 8, Filer.types(2, 21, 0)));
    }

    /** LOCAL 0 becomes another class in a loop, and each LOCAL the one ahead of it: one more in each round. */
    private static void untilNothingChanges() {
        check.says("This is gone on with until nothing changes (also behind what is WRONG).");
        Coder coder = new Coder();
        for (int i = 0; i < 8; i++) {
            coder.push('2').add(4, i);
        }
        int head = coder.place();
        for (int i = 7; i > 0; i--) {
            coder.add(3, i - 1, 4, i);
        }
        coder.push('4').add(4, 0, 21, head);
        TierMill mill = loaded(filer(0, 8, 8, coder.code()));
        for (int i = 0; i < 8; i++) {
            check.due("LOCAL " + i + " after all rounds", REF, mill.kind(0, head, i));
            check.due("LOCAL " + i + " at PLACE 0", 0, mill.kind(0, 0, i));
        }
        // 51 of null at PLACE 5 is WRONG, but 5 at PLACE 2, which only comes behind it, is so too.
        wrong("behind what is WRONG", 2, filer(0, 1, 8, Filer.types(21, 4, 5, 49, 2, 51, 21, 2)));
        wrong("what is WRONG alone", 5, filer(0, 1, 8, Filer.types(21, 4, 2, 49, 2, 51, 21, 2)));
    }

    private static void clashes() {
        check.says("If the STACKS are not of one height there, it CLASHES");
        wrong("one on the STACK, or none", 5, filer(0, 1, 8, Filer.types(52, 22, 5, 0, 1, 49)));
        wrong("two on the STACK, or one", 7, filer(0, 1, 8, Filer.types(2, 52, 22, 7, 0, 1, 2, 49)));
        right("a way that ends with none, then one with one",
            filer(0, 1, 8, Filer.types(2, 52, 22, 7, 5, 49, 49, 5, 49)));
        right("a way that ends with three, then one with one",
            filer(0, 1, 8, Filer.types(2, 52, 22, 8, 2, 2, 49, 49, 5, 49)));
        right("one on the STACK, or one", filer(0, 1, 8, Filer.types(52, 22, 7, 0, 1, 21, 9, 0, 2, 49)));
        // At PLACE 2 all is right but that what comes to it CLASHES.
        int[] clash = {21, 3, 49, 52, 22, 8, 0, 1, 21, 2};
        wrong("a jump that CLASHES, and what is behind it", 2, filer(0, 1, 8, clash));
        check.says("behind one that CLASHES, that takes more than there is, or after which the STACK would have more "
            + "than it may, it CLASHES");
        wrong("takes more than there is", 2, filer(0, 1, 8, Filer.types(21, 3, 49, 5, 21, 2)));
        wrong("would have more than it may", 2, filer(0, 1, 1, Filer.types(21, 3, 49, 2, 2, 21, 2)));
        // 22 would take the one too many, so that only the rule tells what is at PLACE 2.
        wrong("would have more than it may, ahead of what takes it", 2,
            filer(0, 1, 1, Filer.types(21, 4, 5, 49, 52, 52, 22, 2, 49)));
        right("may have two, ahead of what takes one", filer(0, 1, 2, Filer.types(21, 4, 5, 49, 52, 52, 22, 2, 49)));
        right("has as many as it may, ahead of what takes it",
            filer(0, 1, 2, Filer.types(21, 5, 5, 5, 49, 2, 2, 21, 2)));
        right("has as many as it may", filer(0, 1, 2, Filer.types(21, 3, 49, 2, 2, 21, 2)));
        wrong("takes more by 53", 2, filer(0, 1, 8, Filer.types(21, 3, 49, 53, 1, 2, 2)));
        wrong("takes more by 22", 2, filer(0, 1, 8, Filer.types(21, 3, 49, 22, 2, 49)));
        right("behind a 49 nothing is come to", filer(0, 1, 8, Filer.types(49, 5, 5, 3, 0, 49)));
        right("behind a 21 nothing is come to", filer(0, 1, 8, Filer.types(21, 4, 5, 5, 49)));
        right("behind a 53 nothing is come to", filer(0, 1, 8, Filer.types(52, 53, 1, 6, 6, 5, 49)));
        wrong("a 50 that is WRONG: nothing comes behind it", 0, filer(INT, 1, 8, Filer.types(50, 5, 5, 49)));
    }

    /** The first and the last PLACE that 53 tells are come to, and so is the one behind a jump. */
    private static void ways() {
        check.says("An INSTRUCTION that may be come to is WRONG");
        for (int n = 1; n <= 8; n++) {
            for (int which = 0; which <= n; which++) {
                int[] code = Filer.join(Filer.types(52, 53, n), new int[n + 1]);
                java.util.Arrays.fill(code, 3, code.length, code.length);
                code[3 + which] = code.length + 1;
                wrong("PLACE " + which + " of 53 " + n, code.length + 1,
                    filer(0, 1, 8, Filer.join(code, Filer.types(49, 5, 49))));
            }
        }
        for (int op = 22; op <= 33; op++) {
            String kinds = op < 28 ? "I" : "II";
            Coder coder = new Coder().leave(kinds, -1);
            int at = coder.place();
            coder.add(op, at + 4, 5, 49, 49);
            wrong("behind " + op, at + 2, filer(0, 1, 8, coder.code()));
            coder = new Coder().leave(kinds, -1).add(op, at + 3, 49, 5, 49);
            wrong("on by " + op, at + 3, filer(0, 1, 8, coder.code()));
        }
        for (int op = 34; op <= 37; op++) {
            String kinds = op < 36 ? "N" : "NN";
            Coder coder = new Coder().leave(kinds, -1);
            int at = coder.place();
            coder.add(op, at + 4, 5, 49, 49);
            wrong("behind " + op, at + 2, filer(0, 1, 8, coder.code()));
            coder = new Coder().leave(kinds, -1).add(op, at + 3, 49, 5, 49);
            wrong("on by " + op, at + 3, filer(0, 1, 8, coder.code()));
        }
    }

    private static void least() {
        check.says("FAULT 3: of the least METHOD that has one the least PLACE of an INSTRUCTION that is WRONG.");
        wrong("two in one METHOD", 1, filer(0, 1, 8, Filer.types(2, 51, 5, 49)));
        for (int m = 0; m < 16; m++) {
            Filer file = new Filer();
            for (int k = 0; k < 16; k++) {
                file.method(0, NO_TYPES, 0, 1, k < m ? Filer.types(49) : Filer.types(2, 5, 5, 5, 49));
            }
            TierMill mill = new TierMill();
            Filer.putAll(mill, file.bytes());
            check.due("load", Check.ARGUMENT, mill::load);
            check.due("kind", 3, mill.fault(0));
            check.due("PLACE", 2, mill.fault(1));
            check.due("METHOD", m, mill.fault(2));
        }
    }

    // ---- kind()

    private static void kind() {
        check.says("NONE if there is none such, no INSTRUCTION begins there, it can't be come to, or there is no "
            + "FILE.");
        TierMill mill = loaded(new Filer().method(0, Filer.types(INT), 2, 2, 3, 0, 2, 49, 2, 49)
            .method(0, NO_TYPES, 0, 0, 49));
        int[] odd = {Integer.MIN_VALUE, Integer.MIN_VALUE + 100, -101, -100, -1, 2, 7, 8, 16, 99, 102, 107, 108, 200,
            Integer.MAX_VALUE - 100, Integer.MAX_VALUE};
        for (int i : odd) {
            check.due("LOCAL or STACK " + i, -1, mill.kind(0, 3, i));
        }
        check.due("LOCAL 0", INT, mill.kind(0, 3, 0));
        check.due("LOCAL 1", 0, mill.kind(0, 3, 1));
        check.due("STACK 0", INT, mill.kind(0, 3, 100));
        check.due("STACK 1", NULL, mill.kind(0, 3, 101));
        check.due("STACK 1 before it", -1, mill.kind(0, 2, 101));
        for (int p : new int[] {Integer.MIN_VALUE, -1, 1, 4, 5, 6, 119, 120, 1500, Integer.MAX_VALUE}) {
            check.due("PLACE " + p, -1, mill.kind(0, p, 0));
        }
        for (int m : new int[] {Integer.MIN_VALUE, -1, 2, 15, 16, Integer.MAX_VALUE}) {
            check.due("METHOD " + m, -1, mill.kind(m, 0, 0));
        }
        check.due("METHOD 1 has no LOCALS", -1, mill.kind(1, 0, 0));
        check.due("no FILE", -1, new TierMill().kind(0, 0, 0));
        TierMill faulty = new TierMill();
        Filer.putAll(faulty, new Filer().method(0, Filer.types(INT), 1, 1, 5, 49).bytes());
        check.due("a FILE with a FAULT", Check.ARGUMENT, faulty::load);
        check.due("a FILE with a FAULT is none", -1, faulty.kind(0, 0, 0));
        TierMill full = loaded(new Filer().method(0, NO_TYPES, 8, 8, 0, 1, 0, 1, 0, 1, 0, 1, 0, 1, 0, 1, 0, 1, 2, 49));
        check.due("STACK 7 of 8", NULL, full.kind(0, 15, 107));
        check.due("STACK 8 of 8", -1, full.kind(0, 15, 108));
        check.due("LOCAL 7 of 8", 0, full.kind(0, 15, 7));
        check.due("LOCAL 8 of 8", -1, full.kind(0, 15, 8));
    }

    /** There is nothing behind the CODE, whatever FILES there were. */
    private static void behindTheCode() {
        check.says("NONE if there is none such, no INSTRUCTION begins there");
        for (int length = 1; length <= 60; length++) {
            TierMill mill = Busy.usedBy(Busy.overAndOver(52, 5));
            new Filer().method(0, NO_TYPES, 8, 8, Busy.filled(length, 49)).loadInto(mill);
            check.due("at PLACE 0", 0, mill.kind(0, 0, 0));
            for (int p = Math.max(1, length - 1); p < length + 6; p++) {
                check.due("PLACE " + p + " of " + length, -1, mill.kind(0, p, 0));
                check.due("PLACE " + p + " of " + length + ": STACK", -1, mill.kind(0, p, 100));
            }
        }
    }

    public static void main(String[] args) {
        ints();
        references();
        calls();
        returns();
        locals();
        heights();
        takesAsMany();
        behindTheCode();
        kindsBehind();
        kindsThatWere();
        swapped();
        deep();
        eightLocals();
        joins();
        beginning();
        untilNothingChanges();
        clashes();
        ways();
        least();
        kind();
        check.end();
    }
}
