import java.util.Arrays;

/** The edges of THE FILE and of FAULT 1: a test of its own for each sentence that names one. */
final class EdgeFileTest {
    private static final int INT = 1, ARRAY = 2, REF = 16;
    private static final int[] NO_TYPES = {};
    private static final int[] LEAST_METHOD = {0, 0, 0, 0, 1, 49};
    private static final Check check = new Check();

    /** A new object, and one that had other FILES before. */
    private static TierMill[] objects() {
        return new TierMill[] {new TierMill(), Busy.used()};
    }

    private static void sound(String what, int methods, int... file) {
        for (TierMill mill : objects()) {
            Filer.putAll(mill, file);
            check.due(what + ": load", methods, mill::load);
            check.due(what + ": fault(0)", 0, mill.fault(0));
            check.due(what + ": fault(1)", 0, mill.fault(1));
            check.due(what + ": fault(2)", 0, mill.fault(2));
        }
    }

    private static void wrongByte(String what, int place, int... file) {
        for (TierMill mill : objects()) {
            Filer.putAll(mill, file);
            check.due(what + ": load", Check.ARGUMENT, mill::load);
            check.due(what + ": fault(0)", 1, mill.fault(0));
            check.due(what + ": fault(1)", place, mill.fault(1));
            check.due(what + ": fault(2)", 0, mill.fault(2));
        }
    }

    private static int[] bytes(int... bytes) {
        return bytes;
    }

    private static int[] all(int[]... parts) {
        int[] all = {};
        for (int[] part : parts) {
            all = Filer.join(all, part);
        }
        return all;
    }

    private static int[] filled(int count, int value) {
        int[] row = new int[count];
        Arrays.fill(row, value);
        return row;
    }

    // ---- how long

    /** 1500 bytes; METHOD 0 calls the last one, whose INSTRUCTIONS have one byte each. */
    private static Filer longest(int... end) {
        Filer file = new Filer().method(0, NO_TYPES, 0, 0, Filer.join(bytes(47, 11, 49), filled(117, 49)));
        for (int m = 1; m < 11; m++) {
            file.method(0, NO_TYPES, 0, 0, filled(120, 49));
        }
        int[] code = filled(117 - end.length, 2);
        for (int i = 1; i < code.length; i += 2) {
            code[i] = 5;
        }
        return file.method(0, NO_TYPES, 1, 2, Filer.join(code, end));
    }

    private static void length() {
        check.says("THE FILE (at most 1500 bytes)");
        check.due("bytes of the longest FILE", 1500, longest(49).bytes().length);
        sound("1500 bytes", 12, longest(49).bytes());
        int[] byteMore = longest(49).bytes();
        byteMore[1500 - 118] = 118;
        wrongByte("1500 bytes of 1501", 1500, byteMore);
        for (TierMill mill : objects()) {
            longest(49).loadInto(mill);
            check.due("the last PLACE", 0, mill.kind(11, 116, 0));
            check.due("the one behind it", -1, mill.kind(11, 117, 0));
            mill.tiers(1, 1, 4, 120);
            mill.start(0, 0, 0, 0);
            mill.run(2000);
            check.due("it ENDS", 2, mill.state());
            check.due("no SITE at the last PLACE", -1, mill.profile(11, 116, 0));
            check.due("no SITE behind it", -1, mill.profile(11, 117, 0));
            check.due("the last METHOD's bytes", 117, mill.log(1, 4));
        }
        int[][] ends = {{53}, {21, 117}, {22, 117}, {1, 0}, {0}, {20, 0}, {39, 0}, {54}};
        for (int[] end : ends) {
            for (TierMill mill : objects()) {
                Filer.putAll(mill, longest(end).bytes());
                check.due("ends with " + end[0], Check.ARGUMENT, mill::load);
                check.due("ends with " + end[0] + ": kind", 2, mill.fault(0));
                check.due("ends with " + end[0] + ": PLACE", 117 - end.length, mill.fault(1));
                check.due("ends with " + end[0] + ": METHOD", 11, mill.fault(2));
            }
        }
    }

    // ---- classes

    private static int[] classes(int count) {
        int[] file = {count};
        for (int c = 0; c < count; c++) {
            file = all(file, bytes(0, 0));
        }
        return file;
    }

    private static void classCount() {
        check.says("How many CLASSES (0 .. 8)");
        for (int count = 0; count <= 8; count++) {
            sound(count + " classes", 1, all(classes(count), bytes(0, 1), LEAST_METHOD));
        }
        for (int count : bytes(9, 10, 128, 255)) {
            wrongByte(count + " classes", 0, all(classes(count), bytes(0, 1), LEAST_METHOD));
        }
    }

    private static void supers() {
        check.says("its SUPER (0 none, else 1 + a class ahead of it)");
        for (int of = 0; of < 8; of++) {
            for (int above = 0; above <= 255; above++) {
                int[] file = all(classes(8), bytes(0, 1), LEAST_METHOD);
                file[1 + 2 * of] = above;
                if (above <= of) {
                    sound("SUPER " + above + " of class " + of, 1, file);
                } else {
                    wrongByte("SUPER " + above + " of class " + of, 1 + 2 * of, file);
                }
            }
        }
    }

    private static void fieldCount() {
        check.says("how many FIELDS it adds (0 .. 4)");
        for (int fields = 0; fields <= 255; fields++) {
            int[] file = all(bytes(1, 0, fields), filled(Math.min(fields, 5), INT), bytes(0, 1), LEAST_METHOD);
            if (fields <= 4) {
                sound(fields + " FIELDS", 1, file);
            } else {
                wrongByte(fields + " FIELDS", 2, file);
            }
        }
    }

    private static void fieldsInAll() {
        check.says("A class has its SUPER's FIELDS, then its own, 8 at most (the number by which there are more is "
            + "wrong).");
        for (int first = 0; first <= 4; first++) {
            for (int second = 0; second <= 4; second++) {
                for (int third = 0; third <= 5; third++) {
                    int[] file = all(bytes(3, 0, first), filled(first, INT), bytes(1, second), filled(second, ARRAY),
                        bytes(2, third), filled(third, REF), bytes(0, 1), LEAST_METHOD);
                    String what = first + " and " + second + " and " + third + " FIELDS";
                    if (third <= 4 && first + second + third <= 8) {
                        sound(what, 1, file);
                    } else {
                        wrongByte(what, 6 + first + second, file);
                    }
                }
            }
        }
    }

    /** The FIELDS of the last of three classes have TYPES INT, ARRAY, REF 0, ARRAY, INT. */
    private static void superFirst() {
        check.says("A class has its SUPER's FIELDS, then its own");
        int[] types = {INT, ARRAY, REF, ARRAY, INT};
        Filer file = new Filer().cls(-1, INT, ARRAY).cls(0, REF).cls(1, ARRAY, INT)
            .method(0, NO_TYPES, 0, 1, 38, 2, 39, 2, 0, 5, 38, 2, 39, 2, 1, 5, 38, 2, 39, 2, 2, 5,
                38, 2, 39, 2, 3, 5, 38, 2, 39, 2, 4, 5, 49);
        TierMill mill = file.loaded();
        for (int f = 0; f < 5; f++) {
            check.due("FIELD " + f, types[f], mill.kind(0, 6 * f + 5, 100));
        }
        int[] none = new Filer().cls(-1, INT, ARRAY).cls(0, REF).cls(1, ARRAY, INT)
            .method(0, NO_TYPES, 0, 1, 38, 2, 39, 2, 5, 5, 49).bytes();
        TierMill other = new TierMill();
        Filer.putAll(other, none);
        check.due("no FIELD 5", Check.ARGUMENT, other::load);
        check.due("no FIELD 5: FAULT 2", 2, other.fault(0));
    }

    /** Eight classes, each but 0 and 1 below the last but one: what each has of its own, and of its SUPERS. */
    private static void fieldsOfEach() {
        check.says("A class has its SUPER's FIELDS, then its own");
        int[][] own = {{INT}, {ARRAY}, {REF + 2}, {INT, REF}, {ARRAY, REF + 7}, {REF + 5, ARRAY}, {INT}, {REF + 1}};
        int[][] types = new int[8][];
        for (int c = 0; c < 8; c++) {
            types[c] = all(c < 2 ? bytes() : types[c - 2], own[c]);
        }
        for (int c = 0; c < 8; c++) {
            for (int f = 0; f <= types[c].length; f++) {
                Filer file = new Filer();
                for (int d = 0; d < 8; d++) {
                    file.cls(d < 2 ? -1 : d - 2, own[d]);
                }
                TierMill mill = Busy.used();
                Filer.putAll(mill, file.method(0, NO_TYPES, 0, 1, 2, 39, c, f, 5, 49).bytes());
                boolean there = f < types[c].length;
                check.due("FIELD " + f + " of class " + c, there ? 1 : Check.ARGUMENT, mill::load);
                check.due("FIELD " + f + " of class " + c + ": TYPE", there ? types[c][f] : -1, mill.kind(0, 4, 100));
            }
        }
    }

    /** Classes 0 to 3 one below the other, 4 and 5 below 1, 6 and 7 apart. */
    private static void below() {
        check.says("A class is BELOW its SUPER, and what that is BELOW.");
        int[] sup = {-1, 0, 1, 2, 1, 4, -1, -1};
        for (int c = 0; c < 8; c++) {
            for (int d = 0; d < 8; d++) {
                Filer file = new Filer();
                for (int s : sup) {
                    file.cls(s);
                }
                TierMill mill = file.method(INT, NO_TYPES, 0, 1, 38, c, 45, d, 50).loaded();
                mill.start(0, 0, 0, 0);
                mill.run(3);
                boolean is = false;
                for (int up = c; up >= 0; up = sup[up]) {
                    is |= up == d;
                }
                check.due("class " + c + " is " + d + " or BELOW it", is ? 1 : 0, mill.result(1));
            }
        }
    }

    // ---- TYPES

    /** Every byte as a TYPE, of two classes; zero: whether 0 may stand for nothing. */
    private static void types(String what, boolean zero, int[] ahead, int... behind) {
        for (int type = 0; type <= 255; type++) {
            int[] file = all(ahead, bytes(type), behind);
            boolean right = type == INT || type == ARRAY || type == REF || type == REF + 1 || zero && type == 0;
            if (!right) {
                wrongByte(what + " of TYPE " + type, ahead.length, file);
            } else {
                TierMill mill = new TierMill();
                Filer.putAll(mill, file);
                Check.answered(mill::load);
                check.due(what + " of TYPE " + type + " is no FAULT 1", true, mill.fault(0) != 1);
            }
        }
    }

    private static void eachType() {
        check.says("TYPES that are told in a FILE are 1, 2, and 16 + c of any class that there is.");
        types("a FIELD", false, bytes(2, 0, 2, 1), all(bytes(0, 0, 0, 1), LEAST_METHOD));
        types("a SELECTOR's PARAMETER", false, bytes(2, 0, 0, 0, 0, 1, 2, 1),
            all(bytes(0, 1), LEAST_METHOD, bytes(0, 0)));
        types("a METHOD's PARAMETER", false, bytes(2, 0, 0, 0, 0, 0, 1, 2, 1), bytes(0, 2, 0, 1, 49));
        check.says("the TYPE that it RETURNS (or 0: nothing)");
        types("what a SELECTOR RETURNS", true, bytes(2, 0, 0, 0, 0, 1, 1, 1), all(bytes(1), LEAST_METHOD, bytes(0, 0)));
        check.says("the TYPE that it RETURNS (or 0), how many LOCALS");
        types("what a METHOD RETURNS", true, bytes(2, 0, 0, 0, 0, 0, 1, 1, 1), bytes(1, 0, 1, 49));
        check.says("16 + c of any class that there is");
        wrongByte("REF 0 is RETURNED without classes", 4, 0, 0, 1, 0, REF, 0, 0, 1, 49);
        wrongByte("REF 0 without classes", 4, 0, 0, 1, 1, REF, 0, 1, 0, 1, 49);
        sound("REF 7 of 8 classes", 1, all(classes(8), bytes(0, 1, 1, REF + 7, 0, 1, 0, 1, 49)));
        wrongByte("REF 8 of 8 classes", 20, all(classes(8), bytes(0, 1, 1, REF + 8, 0, 1, 0, 1, 49)));
        sound("a FIELD of its own class and of one behind it", 1,
            all(bytes(2, 0, 2, REF, REF + 1, 0, 0, 0, 1), LEAST_METHOD));
    }

    // ---- SELECTORS

    private static void selectors() {
        check.says("How many SELECTORS (0 .. 8)");
        for (int count = 0; count <= 255; count++) {
            int[] file = all(bytes(0, count), filled(2 * Math.min(count, 9), 0), bytes(1), LEAST_METHOD);
            if (count <= 8) {
                sound(count + " SELECTORS", 1, file);
            } else {
                wrongByte(count + " SELECTORS", 1, file);
            }
        }
        check.says("for each how many PARAMETERS (0 .. 3)");
        for (int params = 0; params <= 255; params++) {
            int[] file = all(bytes(0, 2, 0, 0, params), filled(Math.min(params, 4), INT), bytes(0, 1), LEAST_METHOD);
            if (params <= 3) {
                sound(params + " PARAMETERS of a SELECTOR", 1, file);
            } else {
                wrongByte(params + " PARAMETERS of a SELECTOR", 4, file);
            }
        }
    }

    // ---- METHODS

    private static void methodCount() {
        check.says("How many METHODS (1 .. 16)");
        for (int count = 0; count <= 255; count++) {
            int[] file = {0, 0, count};
            for (int m = 0; m < Math.min(count, 17); m++) {
                file = all(file, LEAST_METHOD);
            }
            if (count >= 1 && count <= 16) {
                sound(count + " METHODS", count, file);
            } else {
                wrongByte(count + " METHODS", 2, file);
            }
        }
    }

    private static void methodHead() {
        check.says("for each how many PARAMETERS (0 .. 4)");
        for (int params = 0; params <= 255; params++) {
            int[] file = all(bytes(0, 0, 1, params), filled(Math.min(params, 5), INT), bytes(0, 8, 0, 1, 49));
            if (params <= 4) {
                sound(params + " PARAMETERS", 1, file);
            } else {
                wrongByte(params + " PARAMETERS", 3, file);
            }
        }
        check.says("how many LOCALS (at least its PARAMETERS, 8 at most)");
        for (int params = 0; params <= 4; params++) {
            for (int locals = 0; locals <= 255; locals++) {
                int[] file = all(bytes(0, 0, 1, params), filled(params, INT), bytes(0, locals, 0, 1, 49));
                if (locals >= params && locals <= 8) {
                    sound(locals + " LOCALS, " + params + " PARAMETERS", 1, file);
                } else {
                    wrongByte(locals + " LOCALS, " + params + " PARAMETERS", 5 + params, file);
                }
            }
        }
        check.says("how many its STACK has at most (0 .. 8)");
        for (int stack = 0; stack <= 255; stack++) {
            if (stack <= 8) {
                sound("a STACK of " + stack, 1, 0, 0, 1, 0, 0, 0, stack, 1, 49);
            } else {
                wrongByte("a STACK of " + stack, 6, 0, 0, 1, 0, 0, 0, stack, 1, 49);
            }
        }
    }

    private static void codeLength() {
        check.says("how many bytes of CODE (1 .. 120), these");
        for (int length = 0; length <= 255; length++) {
            int[] file = all(bytes(0, 0, 1, 0, 0, 0, 0, length), filled(length, 49));
            if (length >= 1 && length <= 120) {
                sound(length + " bytes of CODE", 1, file);
                wrongByte(length + " bytes of CODE and one more", 8 + length, all(file, bytes(49)));
                wrongByte(length + " bytes of CODE less one", 7 + length, Arrays.copyOf(file, 7 + length));
            } else {
                wrongByte(length + " bytes of CODE", 7, file);
            }
        }
    }

    // ---- THE TABLE

    /**
     * Class 1 below class 0, class 2 below class 1, class 3 apart; SELECTOR 0 (INT, REF 1) RETURNS REF 1. METHODS 1 to
     * 4 suit it for REF 0 to REF 3; 5 has one PARAMETER less, 6 one more, 7 and 8 have other TYPES (REF 2, REF 0 for
     * REF 1), 9 to 11 RETURN something else, 12 and 13 have no REF first, 14 has the others in another order,
     * 15 has ARRAY for INT.
     */
    private static Filer suiting(int... row) {
        Filer file = new Filer().cls(-1).cls(0).cls(1).cls(-1).sel(REF + 1, INT, REF + 1)
            .method(0, NO_TYPES, 0, 0, 49);
        for (int c = 0; c < 4; c++) {
            file.method(REF + 1, Filer.types(REF + c, INT, REF + 1), 3, 1, 2, 50);
        }
        file.method(REF + 1, Filer.types(REF, INT), 3, 1, 2, 50)
            .method(REF + 1, Filer.types(REF, INT, REF + 1, INT), 4, 1, 2, 50)
            .method(REF + 1, Filer.types(REF, INT, REF + 2), 3, 1, 2, 50)
            .method(REF + 1, Filer.types(REF, INT, REF), 3, 1, 2, 50)
            .method(REF + 2, Filer.types(REF, INT, REF + 1), 3, 1, 2, 50)
            .method(REF, Filer.types(REF, INT, REF + 1), 3, 1, 2, 50)
            .method(0, Filer.types(REF, INT, REF + 1), 3, 0, 49)
            .method(REF + 1, Filer.types(INT, INT, REF + 1), 3, 1, 2, 50)
            .method(REF + 1, Filer.types(ARRAY, INT, REF + 1), 3, 1, 2, 50)
            .method(REF + 1, Filer.types(REF, REF + 1, INT), 3, 1, 2, 50)
            .method(REF + 1, Filer.types(REF, ARRAY, REF + 1), 3, 1, 2, 50);
        for (int m : row) {
            file.row(m);
        }
        return file;
    }

    private static void suited(int c, int method, boolean right) {
        int[] row = {-1, -1, -1, -1};
        row[c] = method;
        int[] file = suiting(row).bytes();
        if (right) {
            sound("METHOD " + method + " for class " + c, 16, file);
        } else {
            wrongByte("METHOD " + method + " for class " + c, file.length - 4 + c, file);
        }
    }

    private static void table() {
        check.says("whose first PARAMETER is REF of this class or of one that it is BELOW");
        String[] right = {"1", "12", "123", "4"};
        for (int c = 0; c < 4; c++) {
            for (int m = 1; m <= 4; m++) {
                suited(c, m, right[c].indexOf('0' + m) >= 0);
            }
            suited(c, 12, false);
            suited(c, 13, false);
            suited(c, 0, false);
        }
        check.says("whose others are those of the SELECTOR (the very same TYPES, as many)");
        for (int m : bytes(5, 6, 7, 8, 14, 15)) {
            suited(0, m, false);
            suited(1, m, false);
        }
        for (int params = 0; params <= 3; params++) {
            // What other FILES had behind the last PARAMETER is none of this one's.
            int[] others = filled(params, INT);
            sound(params + " PARAMETERS", 2, new Filer().cls(-1).sel(0, others)
                .method(0, Filer.join(Filer.types(REF), others), 4, 0, 49)
                .method(0, NO_TYPES, 0, 0, 49).row(0).bytes());
        }
        check.says("and which RETURNS what that does");
        for (int m : bytes(9, 10, 11)) {
            suited(0, m, false);
            suited(2, m, false);
        }
        int[] nothing = {1, 0, 0, 1, 0, 0, 1, 1, 16, 1, 1, 1, 3, 0, 1, 50, 1};
        wrongByte("RETURNS INT for nothing", 16, nothing);
        check.says("else 1 + a METHOD");
        for (int m = 16; m < 255; m++) {
            suited(3, m, false);
        }
        int[] last = {1, 0, 0, 1, 0, 0, 1, 1, 16, 0, 1, 0, 1, 49, 1};
        sound("the last METHOD", 1, last);
        last[14] = 2;
        wrongByte("behind the last METHOD", 14, last);
    }

    private static void tableRows() {
        check.says("THE TABLE: for each class, for each SELECTOR a byte");
        for (int classes = 0; classes <= 8; classes += 2) {
            for (int selectors = 0; selectors <= 8; selectors += 2) {
                int[] file = all(classes(classes), bytes(selectors), filled(2 * selectors, 0), bytes(1), LEAST_METHOD,
                    filled(classes * selectors, 0));
                String what = classes + " classes and " + selectors + " SELECTORS";
                sound(what, 1, file);
                wrongByte(what + ", a byte more", file.length, all(file, bytes(0)));
                if (classes * selectors > 0) {
                    wrongByte(what + ", a byte less", file.length - 1, Arrays.copyOf(file, file.length - 1));
                }
            }
        }
    }

    /** Classes 0, 1, 2 one below the other; which of them sends SELECTOR 0 to what. */
    private static void inherited() {
        check.says("0: as its SUPER has it (none without one)");
        int[][] rows = {{-1, -1, -1}, {-1, 1, -1}, {1, -1, 2}, {1, 2, -1}, {-1, -1, 2}, {1, -1, -1}};
        int[][] calls = {{-1, -1, -1}, {-1, 1, 1}, {1, 1, 2}, {1, 2, 2}, {-1, -1, 2}, {1, 1, 1}};
        for (int t = 0; t < rows.length; t++) {
            for (int c = 0; c < 3; c++) {
                TierMill mill = new TierMill();
                Filer file = new Filer().cls(-1).cls(0).cls(1).sel(INT)
                    .method(INT, NO_TYPES, 0, 1, 38, c, 48, 0, 50)
                    .method(INT, Filer.types(t == 1 ? REF + 1 : REF), 1, 1, 0, 1, 50)
                    .method(INT, Filer.types(t == 4 ? REF + 2 : REF), 1, 1, 0, 2, 50)
                    .row(rows[t][0]).row(rows[t][1]).row(rows[t][2]);
                String what = "TABLE " + t + ", class " + c;
                if (calls[t][c] < 0) {
                    check.due(what + " has none", Check.ARGUMENT, () -> file.loadInto(mill));
                    check.due(what + " has none: kind", 3, mill.fault(0));
                    check.due(what + " has none: PLACE", 2, mill.fault(1));
                } else {
                    check.due(what, 3, () -> file.loadInto(mill));
                    mill.start(0, 0, 0, 0);
                    mill.run(9);
                    check.due(what + " calls", calls[t][c], mill.result(1));
                }
            }
        }
    }

    /** Eight classes by twos, the second one below the first; METHOD 1 + c RETURNS c and is for class c or one below. */
    private static void inheritedByEach() {
        check.says("0: as its SUPER has it (none without one)");
        for (int pair = 0; pair < 4; pair++) {
            for (int which = 0; which < 6; which++) {
                int c = 2 * pair + which % 2;
                // None of the two has one, the first one, or both.
                int has = which / 2;
                Filer file = new Filer();
                for (int d = 0; d < 8; d++) {
                    file.cls(d % 2 == 0 ? -1 : d - 1);
                }
                file.sel(0).sel(INT).method(INT, NO_TYPES, 0, 1, 38, c, 48, 1, 50);
                for (int d = 0; d < 8; d++) {
                    file.method(INT, Filer.types(REF + d), 1, 1, 0, d, 50);
                }
                for (int d = 0; d < 8; d++) {
                    boolean own = d / 2 != pair ? d % 2 == 0 : has > d % 2;
                    file.row(-1, own ? 1 + d : -1);
                }
                TierMill mill = Busy.used();
                String what = "class " + c + " where " + has + " have one";
                check.due(what, has == 0 ? Check.ARGUMENT : 9, () -> file.loadInto(mill));
                check.due(what + ": fault(0)", has == 0 ? 3 : 0, mill.fault(0));
                if (has > 0) {
                    mill.start(0, 0, 0, 0);
                    mill.run(5);
                    check.due(what + " calls", has == 1 ? 2 * pair : c, mill.result(1));
                }
            }
        }
    }

    // ---- FAULT 1

    /** A FILE with all parts. */
    private static int[] rich() {
        return new Filer().cls(-1, INT, ARRAY).cls(0, REF + 1).sel(INT, INT).sel(0)
            .method(INT, Filer.types(INT), 2, 2, 3, 0, 50)
            .method(INT, Filer.types(REF, INT), 2, 2, 3, 1, 50)
            .method(0, Filer.types(REF + 1), 1, 0, 49)
            .row(1, -1).row(-1, 2).bytes();
    }

    private static boolean isCode(int[] file, int i) {
        int end = file.length - 4;
        return i >= end - 1 && i < end || i >= end - 10 && i < end - 7 || i >= end - 20 && i < end - 17;
    }

    private static void richIsRead() {
        int[] file = rich();
        int codes = 0;
        for (int i = 0; i < file.length; i++) {
            codes += isCode(file, i) ? 1 : 0;
        }
        check.due("bytes of CODE", 7, codes);
        sound("the rich FILE", 3, file);
    }

    private static void firstWrong() {
        int[] file = rich();
        check.says("FAULT 1: the first byte that is not as told");
        for (int i = 0; i < file.length; i++) {
            int[] wrong = file.clone();
            wrong[i] = 255;
            if (!isCode(file, i)) {
                wrongByte("byte " + i, i, wrong);
                for (int j = i + 1; j < file.length; j++) {
                    int[] two = wrong.clone();
                    two[j] = 255;
                    wrongByte("bytes " + i + " and " + j, i, two);
                }
                wrongByte("byte " + i + " and one behind the end", i, all(wrong, bytes(0)));
                wrongByte("byte " + i + " is the last one", i, Arrays.copyOf(wrong, i + 1));
            }
        }
        check.says("(the CODE's bytes are not looked at)");
        for (int i = 0; i < file.length; i++) {
            if (isCode(file, i)) {
                int[] wrong = file.clone();
                wrong[i] = 255;
                TierMill mill = new TierMill();
                Filer.putAll(mill, wrong);
                check.due("byte " + i + " of a CODE", Check.ARGUMENT, mill::load);
                check.due("byte " + i + " of a CODE is FAULT 2", 2, mill.fault(0));
                wrongByte("byte " + i + " of a CODE and one behind the end", file.length, all(wrong, bytes(0)));
            }
        }
    }

    private static void ends() {
        int[] file = rich();
        check.says("the first one behind the end");
        for (int more = 1; more < 20; more++) {
            wrongByte(more + " bytes more", file.length, all(file, filled(more, more % 3)));
        }
        check.says("or the FILE's length, if it ends too early");
        for (int length = 0; length < file.length; length++) {
            wrongByte("only " + length + " bytes", length, Arrays.copyOf(file, length));
        }
    }

    public static void main(String[] args) {
        length();
        classCount();
        supers();
        fieldCount();
        fieldsInAll();
        superFirst();
        fieldsOfEach();
        below();
        eachType();
        selectors();
        methodCount();
        methodHead();
        codeLength();
        table();
        tableRows();
        inherited();
        inheritedByEach();
        richIsRead();
        firstWrong();
        ends();
        check.end();
    }
}
