/** FAULTS 1 to 3, and KINDS: promises 2 to 5. */
final class FaultTest {
    private static final int INT = 1, ARRAY = 2, NULL = 3, ANY = 15, REF = 16;
    private static final int[] NO_TYPES = {};
    private static final Check check = new Check();

    private static void faulty(String what, int kind, int place, int method, int... file) {
        TierMill mill = new TierMill();
        Filer.putAll(mill, file);
        check.due(what + ": load", Check.ARGUMENT, mill::load);
        check.due(what + ": fault(0)", kind, mill.fault(0));
        check.due(what + ": fault(1)", place, mill.fault(1));
        check.due(what + ": fault(2)", method, mill.fault(2));
    }

    private static void sound(String what, Filer file, int methods) {
        TierMill mill = new TierMill();
        check.due(what + ": load", methods, () -> file.loadInto(mill));
        check.due(what + ": fault(0)", 0, mill.fault(0));
        check.due(what + ": fault(1)", 0, mill.fault(1));
        check.due(what + ": fault(2)", 0, mill.fault(2));
    }

    // ---- FAULT 1

    private static void wrongByte(String what, int place, int... file) {
        faulty(what, 1, place, 0, file);
    }

    private static void classesAndSelectors() {
        wrongByte("empty", 0);
        wrongByte("9 classes", 0, 9);
        wrongByte("ends behind 8 classes", 1, 8);
        wrongByte("SUPER of class 0", 1, 1, 1);
        wrongByte("SUPER is the class itself", 3, 2, 0, 0, 2);
        wrongByte("5 FIELDS", 2, 1, 0, 5);
        wrongByte("FIELD of TYPE 0", 3, 1, 0, 1, 0);
        wrongByte("FIELD of TYPE 3", 3, 1, 0, 1, 3);
        wrongByte("FIELD of TYPE 15", 3, 1, 0, 1, 15);
        wrongByte("FIELD of class 1 of 1", 3, 1, 0, 1, 17);
        wrongByte("ends behind a FIELD of its own class", 4, 1, 0, 1, 16);
        wrongByte("FIELD of a class behind it", 4, 2, 0, 1, 17);
        wrongByte("9 FIELDS in all", 14, 3, 0, 4, 1, 1, 1, 1, 1, 4, 2, 2, 2, 2, 2, 1, 1);
        wrongByte("8 FIELDS in all", 15, 3, 0, 4, 1, 1, 1, 1, 1, 4, 2, 2, 2, 2, 2, 0);
        wrongByte("9 SELECTORS", 1, 0, 9);
        wrongByte("SELECTOR of 4 PARAMETERS", 2, 0, 1, 4);
        wrongByte("SELECTOR's PARAMETER of TYPE 0", 3, 0, 1, 1, 0);
        wrongByte("SELECTOR RETURNS TYPE 3", 3, 0, 1, 0, 3);
        wrongByte("SELECTOR RETURNS a class that is not", 3, 0, 1, 0, 16);
        wrongByte("ends behind the SELECTORS", 4, 0, 1, 0, 0);
    }

    private static void methodsAndEnd() {
        wrongByte("0 METHODS", 2, 0, 0, 0);
        wrongByte("17 METHODS", 2, 0, 0, 17);
        wrongByte("5 PARAMETERS", 3, 0, 0, 1, 5);
        wrongByte("PARAMETER of TYPE 15", 4, 0, 0, 1, 1, 15);
        wrongByte("RETURNS TYPE 16 without classes", 4, 0, 0, 1, 0, 16);
        wrongByte("fewer LOCALS than PARAMETERS", 6, 0, 0, 1, 1, 1, 0, 0);
        wrongByte("9 LOCALS", 6, 0, 0, 1, 1, 1, 0, 9);
        wrongByte("STACK of 9", 7, 0, 0, 1, 1, 1, 0, 8, 9);
        wrongByte("no CODE", 8, 0, 0, 1, 1, 1, 0, 8, 8, 0);
        wrongByte("121 bytes of CODE", 8, 0, 0, 1, 1, 1, 0, 8, 8, 121);
        wrongByte("ends within the CODE", 11, 0, 0, 1, 1, 1, 0, 8, 8, 3, 49, 49);
        wrongByte("ends ahead of the CODE", 9, 0, 0, 1, 1, 1, 0, 8, 8, 120);
        wrongByte("ends ahead of the second METHOD", 9, 0, 0, 2, 0, 0, 0, 0, 1, 49);
        wrongByte("a byte behind the end", 9, 0, 0, 1, 0, 0, 0, 0, 1, 49, 0, 0);
        wrongByte("FAULT 1 ahead of a CODE that is wrong", 9, 0, 0, 1, 0, 0, 0, 0, 1, 255, 0);
        sound("the least FILE", new Filer().method(0, NO_TYPES, 0, 0, 49), 1);
        Filer most = new Filer();
        for (int m = 0; m < 16; m++) {
            most.method(0, NO_TYPES, 0, 0, 49);
        }
        sound("16 METHODS", most, 16);
    }

    private static int[] withTable(int... table) {
        int[] head = {2, 0, 0, 1, 0, 1, 1, 2, 1, 4,
            0, 0, 0, 0, 1, 49,
            2, 16, 2, 1, 2, 1, 3, 0, 0, 50,
            2, 17, 2, 1, 2, 1, 3, 0, 0, 50,
            2, 16, 1, 1, 2, 1, 3, 0, 0, 50};
        int[] all = java.util.Arrays.copyOf(head, head.length + table.length);
        System.arraycopy(table, 0, all, head.length, table.length);
        return all;
    }

    /** Class 1 is below class 0; METHODS: 0 (), 1 (REF 0, ARRAY) INT, 2 (REF 1, ARRAY) INT, 3 (REF 0, INT) INT. */
    private static void table() {
        int at = withTable().length;
        wrongByte("ends ahead of THE TABLE", at, withTable());
        wrongByte("ends within THE TABLE", at + 1, withTable(0));
        wrongByte("no METHOD 4", at, withTable(5, 0));
        wrongByte("too few PARAMETERS", at, withTable(1, 0));
        wrongByte("first PARAMETER is a class below", at, withTable(3, 0));
        wrongByte("another TYPE", at, withTable(4, 0));
        wrongByte("in the second row", at + 1, withTable(2, 4));
        wrongByte("a byte behind THE TABLE", at + 2, withTable(2, 3, 0));
        for (int first = 0; first <= 2; first += 2) {
            for (int second = 0; second <= 3; second++) {
                TierMill mill = new TierMill();
                Filer.putAll(mill, withTable(first, second));
                check.due("THE TABLE " + first + " " + second, second == 1 ? Check.ARGUMENT : 4, mill::load);
            }
        }
        wrongByte("RETURNS another TYPE", 15, 1, 0, 0, 1, 0, 1, 1, 1, 16, 2, 1, 1, 2, 2, 50, 1);
        wrongByte("first PARAMETER is no REF", 16, 1, 0, 0, 1, 0, 1, 1, 1, 1, 1, 1, 1, 3, 0, 0, 50, 1);
        wrongByte("first PARAMETER is of a class apart", 16,
            2, 0, 0, 0, 0, 1, 0, 0, 1, 1, 17, 0, 1, 0, 1, 49, 1, 0);
    }

    // ---- FAULT 2

    private static int[] oneMethod(int... code) {
        return new Filer().cls(-1, INT, ARRAY).cls(0, REF).sel(0).method(0, NO_TYPES, 2, 3, code).row(-1).row(-1)
            .bytes();
    }

    private static void wrongCode(String what, int place, int... code) {
        faulty(what, 2, place, 0, oneMethod(code));
    }

    private static void code() {
        wrongCode("unknown byte 54", 0, 54);
        wrongCode("unknown byte 255", 1, 2, 255, 49);
        wrongCode("does not end by 49", 0, 5);
        wrongCode("does not end by 22", 1, 2, 22, 0);
        wrongCode("b is not there", 1, 2, 0);
        wrongCode("w is not there whole", 0, 1, 7);
        wrongCode("n is not there", 1, 2, 53);
        wrongCode("a place of 53 is not there", 0, 53, 1, 0);
        wrongCode("n 0", 0, 53, 0, 0);
        wrongCode("n 9", 0, 53, 9, 0, 0, 0, 0, 0, 0, 0, 0, 0, 0);
        wrongCode("n 9 is as long as that tells", 2, 21, 14, 53, 9, 0, 0, 0, 0, 0, 0, 0, 0, 0, 0, 49);
        wrongCode("n 200 is too long", 2, 21, 2, 53, 200, 0, 0, 0, 49);
        wrongCode("a PLACE of 53 where none begins", 2, 0, 0, 53, 2, 0, 7, 1, 49);
        wrongCode("the first PLACE of 53 where none begins", 2, 0, 0, 53, 1, 1, 0);
        sound("n 8", new Filer().method(0, NO_TYPES, 0, 1, 52, 53, 8, 0, 12, 0, 0, 0, 0, 0, 0, 12, 49), 1);
        wrongCode("LOCAL 2 of 2", 0, 3, 2, 49);
        wrongCode("LOCAL 2 of 2 is set", 2, 0, 0, 4, 2, 49);
        wrongCode("LOCAL 255 is added to", 0, 20, 255, 1, 49);
        wrongCode("class 2 of 2 is made", 0, 38, 2, 49);
        wrongCode("FIELD 3 of 3", 0, 39, 1, 3, 49);
        wrongCode("FIELD 2 of 2", 0, 40, 0, 2, 49);
        wrongCode("FIELD of class 2 of 2", 0, 39, 2, 0, 49);
        wrongCode("class 2 of 2 is asked for", 0, 45, 2, 49);
        wrongCode("class 2 of 2 is cast to", 0, 46, 2, 49);
        wrongCode("METHOD 1 of 1", 0, 47, 1, 49);
        wrongCode("SELECTOR 1 of 1", 0, 48, 1, 49);
        for (int op = 21; op <= 37; op++) {
            wrongCode("on at no PLACE: " + op, 0, op, 1, 49);
        }
        wrongCode("on at no PLACE", 0, 21, 2);
        wrongCode("on behind the CODE", 0, 21, 200);
        wrongCode("on within one", 0, 21, 1, 49);
        wrongCode("on at a wrong one: that is the FAULT", 2, 21, 2, 60);
        wrongCode("on behind a wrong one", 0, 21, 3, 60, 49);
        wrongCode("wrong where none comes to", 1, 49, 47, 9, 49);
        wrongCode("the least PLACE", 0, 21, 9, 60);
    }

    private static void leastMethod() {
        Filer file = new Filer().method(0, NO_TYPES, 0, 0, 5, 49).method(0, NO_TYPES, 0, 0, 49)
            .method(0, NO_TYPES, 0, 0, 49, 99).method(0, NO_TYPES, 0, 0, 99);
        faulty("FAULT 2 of the least METHOD is ahead of FAULT 3", 2, 1, 2, file.bytes());
        Filer third = new Filer().method(0, NO_TYPES, 0, 0, 49).method(0, NO_TYPES, 0, 1, 2, 5, 5, 5, 49)
            .method(0, NO_TYPES, 0, 0, 5, 49);
        faulty("FAULT 3 of the least METHOD", 3, 2, 1, third.bytes());
    }

    // ---- FAULT 3

    /** Class 1 below class 0, class 2 apart; SELECTOR 0 (INT) INT: METHOD 1 for class 0; METHOD 0 RETURNS INT. */
    private static Filer typed(int locals, int stack, int... code) {
        return new Filer().cls(-1, INT, ARRAY, REF + 1).cls(0).cls(-1).sel(INT, INT)
            .method(INT, new int[] {INT}, locals, stack, code)
            .method(INT, new int[] {REF, INT}, 2, 1, 3, 1, 50)
            .method(0, new int[] {ARRAY}, 1, 0, 49)
            .row(1).row(-1).row(-1);
    }

    private static void wrong(String what, int place, int... code) {
        faulty(what, 3, place, 0, typed(3, 4, code).bytes());
    }

    private static void right(String what, int... code) {
        sound(what, typed(3, 4, code), 3);
    }

    private static void operands() {
        right("all of INT", 0, 1, 1, 2, 3, 8, 3, 0, 9, 19, 50);
        wrong("takes more than there is", 2, 0, 1, 8, 50);
        wrong("50 without anything", 0, 50);
        wrong("more than the STACK may have", 8, 0, 1, 0, 1, 0, 1, 0, 1, 0, 1, 50);
        wrong("6 on a full STACK", 8, 0, 1, 0, 1, 0, 1, 0, 1, 6, 50);
        right("7 on a full STACK", 0, 1, 0, 1, 0, 1, 0, 1, 7, 50);
        right("42 on a full STACK", 0, 1, 0, 1, 0, 4, 41, 0, 1, 42, 50);
        wrong("x of 8 is null", 3, 2, 0, 1, 8, 50);
        wrong("y of 8 is null", 3, 0, 1, 2, 8, 50);
        wrong("19 of an ARRAY", 3, 0, 1, 41, 19, 50);
        wrong("22 of null", 1, 2, 22, 3, 0, 1, 50);
        wrong("28 of an ARRAY", 5, 0, 1, 41, 0, 1, 28, 0, 0, 1, 50);
        wrong("51 of null", 1, 2, 51, 0, 1, 50);
        wrong("53 of null", 1, 2, 53, 1, 5, 5, 0, 1, 50);
        wrong("41 of null", 1, 2, 41, 44, 50);
        wrong("LOCAL is NO", 0, 3, 1, 50);
        wrong("LOCAL of 20 is NO", 0, 20, 1, 1, 0, 1, 50);
        wrong("LOCAL of 20 is null", 3, 2, 4, 1, 20, 1, 1, 0, 1, 50);
        right("LOCAL of 20 is INT", 20, 0, 1, 3, 0, 50);
        wrong("34 of INT", 2, 0, 1, 34, 0, 0, 1, 50);
        right("34 of null", 2, 34, 3, 0, 1, 50);
        right("35 of an ARRAY", 0, 1, 41, 35, 5, 0, 1, 50);
        wrong("36 of INTS", 4, 0, 1, 0, 1, 36, 0, 0, 1, 50);
        wrong("36 of null and INT", 3, 2, 0, 1, 36, 0, 0, 1, 50);
        wrong("36 of an ARRAY and a REF", 5, 0, 1, 41, 38, 0, 36, 0, 0, 1, 50);
        wrong("37 of a REF and an ARRAY", 5, 38, 0, 0, 1, 41, 37, 0, 0, 1, 50);
        right("36 of an ARRAY and null", 0, 1, 41, 2, 36, 6, 0, 1, 50);
        right("36 of two REFS", 38, 0, 38, 2, 36, 6, 0, 1, 50);
        right("36 of null and null", 2, 2, 36, 4, 0, 1, 50);
    }

    private static void objects() {
        wrong("39 of a class apart", 2, 38, 2, 39, 0, 0, 50);
        wrong("39 of a class above", 2, 38, 0, 39, 1, 0, 50);
        right("39 of a class below", 38, 1, 39, 0, 0, 50);
        right("39 of null", 2, 39, 0, 0, 50);
        wrong("39 of INT", 2, 0, 0, 39, 0, 0, 50);
        wrong("39 puts an ARRAY", 5, 38, 0, 39, 0, 1, 50);
        wrong("y of 40 is null for INT", 3, 38, 0, 2, 40, 0, 0, 0, 1, 50);
        right("y of 40 is null for an ARRAY", 38, 0, 2, 40, 0, 1, 0, 1, 50);
        wrong("y of 40 is above its TYPE", 4, 38, 0, 38, 0, 40, 0, 2, 0, 1, 50);
        right("y of 40 is of its TYPE", 38, 0, 38, 1, 40, 0, 2, 0, 1, 50);
        wrong("x of 42 is a REF", 4, 38, 0, 0, 1, 42, 50);
        right("x of 42 is null", 2, 0, 1, 42, 50);
        wrong("i of 42 is null", 2, 2, 2, 42, 50);
        wrong("y of 43 is null", 4, 2, 0, 1, 2, 43, 0, 1, 50);
        wrong("i of 43 is null", 4, 2, 2, 0, 1, 43, 0, 1, 50);
        right("x of 43 is null", 2, 0, 1, 0, 1, 43, 0, 1, 50);
        wrong("44 of INT", 2, 0, 1, 44, 50);
        right("44 of null", 2, 44, 50);
        wrong("45 of an ARRAY", 3, 0, 1, 41, 45, 0, 50);
        wrong("46 of INT", 2, 0, 1, 46, 0, 0, 1, 50);
        right("45 of null", 2, 45, 0, 50);
        right("45 of a class apart", 38, 2, 45, 0, 50);
        wrong("50 of a REF for INT", 2, 38, 0, 50);
        wrong("50 of null for INT", 1, 2, 50);
        wrong("49 where INT is due", 0, 49);
        faulty("50 where nothing is due", 3, 2, 0, new Filer().method(0, NO_TYPES, 0, 1, 0, 1, 50).bytes());
        sound("null for an ARRAY", new Filer().method(ARRAY, NO_TYPES, 0, 1, 2, 50), 1);
    }

    private static void calls() {
        right("48 of a class that has it", 38, 0, 0, 1, 48, 0, 50);
        right("48 of a class below", 38, 1, 0, 1, 48, 0, 50);
        wrong("48 of a class that has it not", 4, 38, 2, 0, 1, 48, 0, 50);
        wrong("48 of null", 3, 2, 0, 1, 48, 0, 50);
        right("48 of null as a REF", 2, 46, 1, 0, 1, 48, 0, 50);
        wrong("48 with null for INT", 3, 38, 0, 2, 48, 0, 50);
        wrong("48 with too few", 2, 0, 1, 48, 0, 50);
        right("47 with null for a REF", 2, 0, 1, 47, 1, 50);
        right("47 with a class below", 38, 1, 0, 1, 47, 1, 50);
        wrong("47 with a class apart", 4, 38, 2, 0, 1, 47, 1, 50);
        wrong("47 with INT for an ARRAY", 2, 0, 1, 47, 2, 0, 1, 50);
        wrong("47 that RETURNS nothing", 3, 2, 47, 2, 50);
        right("47 with null for an ARRAY", 2, 47, 2, 0, 1, 50);
    }

    private static void ways() {
        right("behind a return nothing is looked at", 0, 1, 50, 5, 5, 8, 49);
        wrong("heights differ", 6, 3, 0, 22, 6, 0, 1, 0, 1, 50);
        wrong("behind a clash", 2, 21, 4, 0, 1, 52, 22, 2, 21, 2);
        wrong("back to PLACE 0 with more", 0, 0, 1, 21, 0);
        wrong("the KINDS at PLACE 0 join with the beginning", 0, 3, 0, 5, 2, 4, 0, 21, 0);
        wrong("INT and null are NO", 9, 3, 0, 22, 7, 2, 21, 9, 0, 1, 5, 0, 1, 50);
        right("NO is no fault if it is not taken", 3, 0, 22, 9, 2, 4, 1, 21, 13, 0, 1, 4, 1, 0, 1, 50);
        wrong("LOCAL that one way did not set", 9, 3, 0, 22, 9, 2, 4, 1, 21, 9, 3, 1, 5, 0, 1, 50);
        wrong("what is WRONG is gone behind", 2, 21, 6, 5, 0, 1, 50, 2, 51, 21, 2);
        wrong("behind too many it CLASHES", 2, 21, 5, 0, 1, 50, 52, 52, 52, 52, 52, 21, 2);
        wrong("what CLASHES is WRONG", 2, 21, 4, 50, 49, 52, 52, 52, 52, 52, 21, 2);
        wrong("behind too few it CLASHES", 2, 21, 5, 0, 1, 50, 5, 21, 2);
        wrong("6 of NO", 9, 3, 0, 22, 7, 2, 21, 9, 0, 1, 6, 5, 5, 0, 1, 50);
        wrong("4 of NO", 9, 3, 0, 22, 7, 2, 21, 9, 0, 1, 4, 1, 0, 1, 50);
        wrong("36 of NO and null", 10, 3, 0, 22, 7, 2, 21, 9, 0, 1, 2, 36, 12, 0, 1, 50);
        wrong("36 of null and NO", 10, 2, 3, 0, 22, 8, 2, 21, 10, 0, 1, 36, 12, 0, 1, 50);
        wrong("34 of NO", 9, 3, 0, 22, 7, 2, 21, 9, 0, 1, 34, 11, 0, 1, 50);
        wrong("7 of NO", 11, 3, 0, 22, 7, 2, 21, 9, 0, 1, 0, 1, 7, 50);
    }

    // ---- KINDS

    /** Class 1 and 2 below class 0, class 3 apart; two ways come together at PLACE 43. */
    private static TierMill joining() {
        return new Filer().cls(-1).cls(0).cls(0).cls(-1)
            .method(0, new int[] {INT}, 7, 2,
                3, 0, 22, 24,
                38, 1, 4, 1, 2, 4, 2, 38, 1, 4, 3, 0, 5, 4, 4, 2, 4, 5, 21, 43,
                38, 2, 4, 1, 0, 3, 41, 4, 2, 38, 3, 4, 3, 2, 4, 4, 2, 4, 5,
                3, 1, 3, 3, 5, 5, 49,
                2, 49)
            .method(0, NO_TYPES, 1, 1, 2, 4, 0, 38, 1, 4, 0, 21, 3)
            .loaded();
    }

    private static void kinds() {
        TierMill mill = joining();
        int[] joined = {INT, REF, ARRAY, ANY, 0, NULL, 0, -1};
        for (int i = 0; i < joined.length; i++) {
            check.due("joined LOCAL " + i, joined[i], mill.kind(0, 43, i));
        }
        int[] oneWay = {INT, REF + 1, NULL, REF + 1, INT, NULL, 0};
        for (int i = 0; i < oneWay.length; i++) {
            check.due("LOCAL " + i + " of one way", oneWay[i], mill.kind(0, 22, i));
        }
        check.due("an empty STACK", -1, mill.kind(0, 43, 100));
        check.due("the STACK", REF, mill.kind(0, 47, 100));
        check.due("the STACK's next", ANY, mill.kind(0, 47, 101));
        check.due("above the STACK", -1, mill.kind(0, 47, 102));
        check.due("LOCAL -1", -1, mill.kind(0, 43, -1));
        check.due("LOCAL 99", -1, mill.kind(0, 43, 99));
        check.due("the greatest LOCAL", -1, mill.kind(0, 43, Integer.MAX_VALUE));
        check.due("the least LOCAL", -1, mill.kind(0, 43, Integer.MIN_VALUE));
        check.due("none begins", -1, mill.kind(0, 44, 0));
        check.due("not come to", -1, mill.kind(0, 50, 0));
        check.due("behind the CODE", -1, mill.kind(0, 52, 0));
        check.due("PLACE -1", -1, mill.kind(0, -1, 0));
        check.due("METHOD 2", -1, mill.kind(2, 0, 0));
        check.due("METHOD -1", -1, mill.kind(-1, 0, 0));
        check.due("PLACE 0 of METHOD 1", 0, mill.kind(1, 0, 0));
        check.due("null on the STACK", NULL, mill.kind(1, 1, 100));
        check.due("null and REF in a loop", REF + 1, mill.kind(1, 3, 0));
        check.due("no FILE", -1, new TierMill().kind(0, 0, 0));
        lastClass();
    }

    /** Eight classes, 6 and 7 both below 5. */
    private static void lastClass() {
        Filer file = new Filer().cls(-1);
        for (int c = 1; c < 8; c++) {
            file.cls(c == 7 ? 5 : c - 1);
        }
        TierMill mill = file.method(0, new int[] {INT}, 3, 1,
            3, 0, 22, 14, 38, 7, 4, 1, 38, 7, 4, 2, 21, 21, 38, 6, 4, 1, 2, 4, 2, 49).loaded();
        check.due("class 6 and 7 are below class 5", REF + 5, mill.kind(0, 21, 1));
        check.due("class 7 and null", REF + 7, mill.kind(0, 21, 2));
    }

    private static void any(String what, int place, int... behind) {
        int[] head = {3, 0, 22, 8, 38, 0, 21, 10, 38, 2};
        int[] all = java.util.Arrays.copyOf(head, head.length + behind.length);
        System.arraycopy(behind, 0, all, head.length, behind.length);
        if (place == 0) {
            right(what, all);
        } else {
            wrong(what, place, all);
        }
    }

    private static void anys() {
        any("45 of ANY", 0, 45, 0, 50);
        any("46 of ANY", 0, 46, 0, 39, 0, 0, 50);
        any("39 of ANY", 10, 39, 0, 0, 50);
        any("36 of ANY and null", 0, 2, 36, 13, 0, 1, 50);
        any("34 of ANY", 0, 34, 12, 0, 1, 50);
        any("36 of ANY and an ARRAY", 13, 0, 1, 41, 36, 15, 0, 1, 50);
        any("37 of ANY and an ARRAY", 13, 0, 1, 41, 37, 15, 0, 1, 50);
        wrong("36 of an ARRAY and ANY", 13, 0, 1, 41, 3, 0, 22, 11, 38, 0, 21, 13, 38, 2, 36, 15, 0, 1, 50);
        any("48 of ANY", 12, 0, 1, 48, 0, 50);
        any("ANY for a REF", 12, 0, 1, 47, 1, 50);
        any("ANY for INT", 10, 50);
    }

    private static void latestLoad() {
        TierMill mill = new TierMill();
        for (int what = -1; what <= 3; what++) {
            check.due("fault ahead of any load", what < 0 || what > 2 ? -1 : 0, mill.fault(what));
        }
        Filer least = new Filer().method(INT, new int[] {INT}, 1, 1, 3, 0, 50);
        check.due("load", 1, () -> least.loadInto(mill));
        mill.start(5, 0, 0, 0);
        mill.run(1);
        Filer.putAll(mill, 0, 0, 1, 0, 0, 0, 1, 2, 2, 60);
        check.due("load of a FAULT 2", Check.ARGUMENT, mill::load);
        check.due("its kind", 2, mill.fault(0));
        check.due("its place", 1, mill.fault(1));
        check.due("the FILE stays", INT, mill.kind(0, 2, 100));
        check.due("the RUN stays", 1, mill.state());
        check.due("what was put is gone", Check.ARGUMENT, mill::load);
        check.due("what was put is gone: its kind", 1, mill.fault(0));
        check.due("what was put is gone: its place", 0, mill.fault(1));
        check.due("run on", 1, () -> mill.run(9));
        check.due("result", 5, mill.result(1));
        check.due("load again", 1, () -> least.loadInto(mill));
        check.due("no FAULT any more", 0, mill.fault(0));
        check.due("no RUN any more", 0, mill.state());
        check.due("no result any more", 0, mill.result(1));
    }

    private static void puts() {
        TierMill mill = new TierMill();
        check.due("put n 0", false, mill.put(0, 0));
        check.due("put n 9", false, mill.put(0, 9));
        check.due("put n -1", false, mill.put(0, -1));
        check.due("the highest byte first", true, mill.put(0x77_00_00_01_00_01_00_01L, 7));
        check.due("the others", true, mill.put(0xFF_03_00_07_32L, 4));
        check.due("load", 1, mill::load);
        mill.start(0, 0, 0, 0);
        mill.run(5);
        check.due("it does what was put", 7, mill.result(1));
        check.due("put 3 bytes", true, mill.put(0x00_00_01L, 3));
        check.due("load", Check.ARGUMENT, mill::load);
        check.due("it has 3 bytes", 3, mill.fault(1));
        check.due("put again", true, mill.put(0x00_00_01_00_01_00_01L, 7));
        check.due("put 4 bytes of a word", true, mill.put(-1L << 32 | 0x03_00_07_32L, 4));
        check.due("load", 1, mill::load);
        for (int i = 0; i < 187; i++) {
            check.due("put " + i, true, mill.put(-1, 8));
        }
        check.due("more than 1500", false, mill.put(0, 5));
        check.due("1500", true, mill.put(0, 4));
        check.due("1501", false, mill.put(0, 1));
        check.due("load of 1500", Check.ARGUMENT, mill::load);
        check.due("room again", true, mill.put(0, 8));
    }

    public static void main(String[] args) {
        classesAndSelectors();
        methodsAndEnd();
        table();
        code();
        leastMethod();
        operands();
        objects();
        calls();
        ways();
        anys();
        kinds();
        latestLoad();
        puts();
        check.end();
    }
}
