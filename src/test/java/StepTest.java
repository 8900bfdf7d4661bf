/** INSTRUCTIONS, TRAPS, THE HEAP, and what can be seen of a RUN: promises 7 to 16, 20 and 21. */
final class StepTest {
    private static final int INT = 1, ARRAY = 2, REF = 16;
    private static final int[] NO_TYPES = {};
    private static final int[] TWO = {INT, INT};
    private static final int LEAST = Integer.MIN_VALUE, GREATEST = Integer.MAX_VALUE;
    private static final Check check = new Check();

    /** Class 0 (INT, ARRAY, REF 0), class 1 below it, class 2 apart; METHOD 0 (INT, INT) RETURNS INT. */
    private static Filer filer(int... code) {
        return new Filer().cls(-1, INT, ARRAY, REF).cls(0).cls(-1).method(INT, TWO, 5, 6, code);
    }

    private static void gives(String what, int want, int a, int b, int... code) {
        TierMill mill = filer(code).loaded();
        mill.start(a, b, 0, 0);
        mill.run(100);
        check.due(what + ": state", 2, mill.state());
        check.due(what + ": TRAP", 0, mill.result(0));
        check.due(what, want, mill.result(1));
        check.due(what + ": FRAMES", 0, mill.total(3));
    }

    private static void calculating() {
        int[][] rows = {
            {8, 7, 5, 12}, {8, GREATEST, 1, LEAST}, {9, 7, 5, 2}, {9, LEAST, 1, GREATEST}, {10, 7, -5, -35},
            {10, 65536, 65536, 0}, {11, 7, 2, 3}, {11, -7, 2, -3}, {11, LEAST, -1, LEAST}, {12, 7, -2, 1},
            {12, -7, 2, -1}, {12, LEAST, -1, 0}, {13, 12, 10, 8}, {14, 12, 10, 14}, {15, 12, 10, 6}, {16, 1, 33, 2},
            {16, 1, -1, LEAST}, {17, -8, 1, -4}, {17, -8, 33, -4}, {18, -8, 1, GREATEST - 3}, {18, -1, 31, 1}};
        for (int[] row : rows) {
            gives("op " + row[0], row[3], row[1], row[2], 3, 0, 3, 1, row[0], 50);
        }
        gives("19", -5, 5, 0, 3, 0, 19, 50);
        gives("19 of the least", LEAST, LEAST, 0, 3, 0, 19, 50);
        gives("0", -128, 0, 0, 0, 128, 50);
        gives("1", -2, 0, 0, 1, 255, 254, 50);
        gives("1 up", 0x7F01, 0, 0, 1, 0x7F, 1, 50);
        gives("20", 4, 7, 0, 20, 0, 253, 3, 0, 50);
        gives("20 wraps", LEAST, GREATEST, 0, 20, 0, 1, 3, 0, 50);
        gives("7", -7, 9, 2, 3, 0, 3, 1, 7, 9, 50);
        gives("6", 81, 9, 2, 3, 0, 6, 10, 50);
        gives("5", 9, 9, 2, 3, 0, 3, 1, 5, 50);
        gives("52 without input", 0, 9, 2, 52, 50);
    }

    private static void jumping() {
        int[][] one = {{22, 0}, {23, 5}, {23, -5}, {24, -1}, {25, 0}, {25, 1}, {26, 1}, {27, 0}, {27, -1}};
        int[][] oneNot = {{22, 5}, {22, -5}, {23, 0}, {24, 0}, {24, 1}, {25, -1}, {26, 0}, {26, -1}, {27, 1}};
        for (int[] row : one) {
            gives("taken " + row[0], 1, row[1], 0, 3, 0, row[0], 7, 0, 0, 50, 0, 1, 50);
        }
        for (int[] row : oneNot) {
            gives("not taken " + row[0], 0, row[1], 0, 3, 0, row[0], 7, 0, 0, 50, 0, 1, 50);
        }
        int[][] two = {{28, 3, 3}, {29, 3, 4}, {30, -3, 4}, {31, 4, 4}, {31, 5, 4}, {32, 5, 4}, {33, 4, 4}, {33, 3, 4}};
        int[][] twoNot = {{28, 3, 4}, {29, 3, 3}, {30, 4, 4}, {30, 5, 4}, {31, 3, 4}, {32, 4, 4}, {33, 5, 4}};
        for (int[] row : two) {
            gives("taken " + row[0], 1, row[1], row[2], 3, 0, 3, 1, row[0], 9, 0, 0, 50, 0, 1, 50);
        }
        for (int[] row : twoNot) {
            gives("not taken " + row[0], 0, row[1], row[2], 3, 0, 3, 1, row[0], 9, 0, 0, 50, 0, 1, 50);
        }
        gives("34 of null", 1, 0, 0, 2, 34, 6, 0, 0, 50, 0, 1, 50);
        gives("35 of null", 0, 0, 0, 2, 35, 6, 0, 0, 50, 0, 1, 50);
        gives("34 of one", 0, 0, 0, 38, 0, 34, 7, 0, 0, 50, 0, 1, 50);
        gives("35 of one", 1, 0, 0, 38, 0, 35, 7, 0, 0, 50, 0, 1, 50);
        gives("36 of the same", 1, 0, 0, 38, 0, 6, 36, 8, 0, 0, 50, 0, 1, 50);
        gives("37 of the same", 0, 0, 0, 38, 0, 6, 37, 8, 0, 0, 50, 0, 1, 50);
        gives("36 of others", 0, 0, 0, 38, 0, 38, 0, 36, 9, 0, 0, 50, 0, 1, 50);
        gives("36 of nulls", 1, 0, 0, 2, 2, 36, 7, 0, 0, 50, 0, 1, 50);
        gives("21 goes over", 8, 0, 0, 21, 5, 0, 9, 50, 0, 8, 50);
        int[] chosen = {3, 0, 53, 2, 7, 10, 13, 0, 70, 50, 0, 71, 50, 0, 72, 50};
        gives("53 of 0", 70, 0, 0, chosen);
        gives("53 of 1", 71, 1, 0, chosen);
        gives("53 of n", 72, 2, 0, chosen);
        gives("53 of -1", 72, -1, 0, chosen);
        gives("53 of the least", 72, LEAST, 0, chosen);
    }

    private static void objects() {
        gives("a new FIELD is 0", 0, 0, 0, 38, 0, 39, 0, 0, 50);
        gives("a new FIELD is null", 1, 0, 0, 38, 0, 39, 0, 2, 34, 10, 0, 0, 50, 0, 1, 50);
        gives("40, 39", 7, 7, 0, 38, 0, 4, 2, 3, 2, 3, 0, 40, 0, 0, 3, 2, 39, 0, 0, 50);
        gives("40, 39 of a class below", 7, 7, 0, 38, 1, 4, 2, 3, 2, 3, 0, 40, 1, 0, 3, 2, 39, 0, 0, 50);
        gives("a new INT is 0", 0, 3, 2, 3, 0, 41, 3, 1, 42, 50);
        gives("43, 42", 9, 3, 2, 3, 0, 41, 4, 2, 3, 2, 3, 1, 0, 9, 43, 3, 2, 3, 1, 42, 50);
        gives("44", 3, 3, 2, 3, 0, 41, 44, 50);
        gives("an ARRAY of 0", 0, 0, 0, 3, 0, 41, 44, 50);
        gives("45 of null", 0, 0, 0, 2, 45, 0, 50);
        gives("45 of the class", 1, 0, 0, 38, 0, 45, 0, 50);
        gives("45 of one below", 1, 0, 0, 38, 1, 45, 0, 50);
        gives("45 of one above", 0, 0, 0, 38, 0, 45, 1, 50);
        gives("45 of one apart", 0, 0, 0, 38, 2, 45, 0, 50);
        gives("46 of null", 1, 0, 0, 2, 46, 1, 34, 8, 0, 0, 50, 0, 1, 50);
        gives("46 of one below", 0, 0, 0, 38, 1, 46, 0, 39, 0, 0, 50);
    }

    /** The STEP that traps is at this PLACE, behind so many STEPS, with so many on the STACK. */
    private static TierMill traps(String what, int trap, int place, int steps, int height, int... code) {
        TierMill mill = filer(code).loaded();
        mill.tiers(1000, 1, 0, 0);
        mill.start(3, 0, 0, 0);
        check.due(what + ": run", steps, mill.run(2000));
        check.due(what + ": state", 3, mill.state());
        check.due(what + ": TRAP", trap, mill.result(0));
        check.due(what + ": result", 0, mill.result(1));
        check.due(what + ": PLACE", place, mill.frame(0, 1));
        check.due(what + ": STACK", height, mill.frame(0, 3));
        check.due(what + ": STEPS", steps, mill.total(0));
        check.due(what + ": run again", Check.STATE, () -> mill.run(1));
        return mill;
    }

    private static void trapping() {
        TierMill mill = traps("/ by 0", 1, 4, 2, 2, 3, 0, 3, 1, 11, 50);
        check.due("x is there yet", 3, mill.local(0, 100));
        check.due("y is there yet", 0, mill.local(0, 101));
        traps("rest by 0", 1, 4, 2, 2, 3, 0, 3, 1, 12, 50);
        traps("39 of null", 2, 1, 1, 1, 2, 39, 0, 0, 50);
        traps("40 of null", 2, 3, 2, 2, 2, 0, 1, 40, 0, 0, 0, 1, 50);
        traps("42 of null", 2, 3, 2, 2, 2, 0, 1, 42, 50);
        traps("43 of null", 2, 5, 3, 3, 2, 0, 1, 0, 1, 43, 0, 1, 50);
        traps("44 of null", 2, 1, 1, 1, 2, 44, 50);
        traps("no INT 3 of 3", 3, 5, 3, 2, 3, 0, 41, 3, 0, 42, 50);
        traps("no INT -1", 3, 5, 3, 2, 3, 0, 41, 0, 255, 42, 50);
        traps("no INT 3 of 3 to set", 3, 7, 4, 3, 3, 0, 41, 3, 0, 0, 9, 43, 0, 1, 50);
        traps("an ARRAY of -1", 4, 2, 1, 1, 0, 255, 41, 44, 50);
        mill = traps("46 of one above", 5, 2, 1, 1, 38, 0, 46, 1, 39, 0, 0, 50);
        check.due("x of 46 is there yet", 0, mill.part(0, 100, 0));
        traps("46 of one apart", 5, 2, 1, 1, 38, 2, 46, 0, 39, 0, 0, 50);
        mill = traps("7 a 65th FRAME", 7, 4, 63 * 3 + 2, 2, 3, 0, 3, 1, 47, 0, 50);
        check.due("64 FRAMES", 64, mill.total(3));
        check.due("METHOD 0 is called 63 times", 64, mill.method(0, 0));
        check.due("the last FRAME's LOCAL", 3, mill.local(63, 0));
        check.due("the last FRAME's PLACE", 6, mill.frame(63, 1));
        check.due("the last FRAME's STACK", 0, mill.frame(63, 3));
        TierMill deep = mill;
        check.due("the last FRAME's STACK is taken", Check.NO_ELEMENT, () -> deep.local(63, 100));
        nullAheadOfFrames();
    }

    /** METHOD 1 calls itself until there are 64 FRAMES, then SELECTOR 0 is sent to null. */
    private static void nullAheadOfFrames() {
        TierMill mill = new Filer().cls(-1).sel(0, INT).method(0, NO_TYPES, 0, 2, 2, 46, 0, 0, 62, 47, 1, 49)
            .method(0, new int[] {REF, INT}, 2, 2,
                3, 1, 23, 11, 3, 0, 0, 1, 48, 0, 49, 3, 0, 20, 1, 255, 3, 1, 47, 1, 49)
            .row(1).loaded();
        mill.start(0, 0, 0, 0);
        mill.run(2000);
        check.due("64 FRAMES", 64, mill.total(3));
        check.due("TRAP 2 is ahead of 7", 2, mill.result(0));
        check.due("x and y are there yet", 2, mill.frame(0, 3));
    }

    // ---- THE HEAP

    private static TierMill inRoom(int cells, Filer file) {
        TierMill mill = file.loaded();
        mill.room(cells);
        mill.start(1, 0, 0, 0);
        return mill;
    }

    private static void logged(TierMill mill, String what, int k, int... entry) {
        for (int i = 0; i < entry.length; i++) {
            check.due(what + ": log(" + k + ", " + i + ")", entry[i], mill.log(k, i));
        }
    }

    private static void collecting() {
        TierMill mill = inRoom(8, filer(38, 0, 5, 38, 1, 5, 0, 0, 50));
        check.due("room of this RUN", 8, mill.total(9));
        mill.run(1);
        check.due("USED", 5, mill.total(5));
        check.due("NUMBER", 1, mill.total(6));
        check.due("NUMBER on the STACK", 1, mill.local(0, 100));
        mill.run(2);
        check.due("USED then", 5, mill.total(5));
        check.due("NUMBER then", 2, mill.total(6));
        check.due("class then", 1, mill.part(0, 100, 0));
        logged(mill, "collected", 0, 3, 2, 0, 5, 0);
        check.due("ENTRIES", 1, mill.total(4));

        mill = inRoom(8, filer(38, 0, 4, 2, 38, 0, 5, 0, 0, 50));
        check.due("no room", 2, mill.run(9));
        check.due("TRAP 6", 6, mill.result(0));
        logged(mill, "collected for nothing", 0, 3, 2, 0, 5, 5);
        check.due("USED stays", 5, mill.total(5));
        check.due("NUMBER stays", 1, mill.total(6));
        check.due("LOCAL stays", 1, mill.local(0, 2));

        mill = inRoom(10, filer(38, 0, 4, 2, 38, 0, 5, 0, 0, 50));
        mill.run(9);
        check.due("just room", 2, mill.state());
        check.due("nothing is collected", 0, mill.total(4));
        check.due("USED at the end", 10, mill.total(5));

        mill = inRoom(4000, filer(38, 0, 5, 1, 127, 255, 41, 5, 0, 0, 50));
        mill.run(9);
        check.due("no room in any case", 6, mill.result(0));
        logged(mill, "collected in any case", 0, 3, 3, 0, 5, 0);
        mill = inRoom(4000, filer(0, 255, 0, 1, 18, 41, 5, 0, 0, 50));
        mill.run(9);
        check.due("as true numbers", 6, mill.result(0));
        check.due("x is there yet", GREATEST, mill.local(0, 100));
        mill = inRoom(4000, filer(1, 0x0F, 0x9E, 41, 44, 50));
        mill.run(9);
        check.due("3998 INTS in 4000 CELLS", 3998, mill.result(1));
        mill = inRoom(4000, filer(38, 0, 4, 2, 38, 1, 5, 1, 0x0F, 0x99, 41, 4, 3, 3, 3, 1, 0x0F, 0x98, 0, 9, 43,
            2, 4, 3, 1, 0x0F, 0x99, 41, 4, 3, 3, 3, 1, 0x0F, 0x98, 0, 8, 43, 3, 3, 1, 0x0F, 0x98, 42, 50));
        mill.run(99);
        check.due("both halves have all CELLS", 8, mill.result(1));
        check.due("two ENTRIES", 2, mill.total(4));
        check.due("all CELLS are USED", 4000, mill.total(5));
        mill = inRoom(4000, filer(1, 0x0F, 0x9F, 41, 44, 50));
        mill.run(9);
        check.due("3999 INTS in 4000 CELLS", 6, mill.result(0));
    }

    private static void reaching() {
        // LOCAL 2 is NO where two ways come together, so it holds nothing.
        TierMill mill = inRoom(8, filer(3, 0, 22, 8, 38, 0, 4, 2, 38, 0, 5, 0, 0, 50));
        mill.run(4);
        TierMill joined = mill;
        check.due("KIND NO is not seen", Check.NO_ELEMENT, () -> joined.local(0, 2));
        check.due("KIND NO has no parts", Check.NO_ELEMENT, () -> joined.part(0, 2, 0));
        mill.run(9);
        check.due("KIND NO is not reached", 2, mill.state());
        logged(mill, "KIND NO", 0, 3, 4, 0, 5, 0);

        Filer kept = filer(38, 0, 6, 47, 1, 5, 0, 0, 50).method(0, new int[] {REF}, 1, 1, 2, 4, 0, 38, 0, 5, 49);
        mill = inRoom(8, kept);
        mill.run(99);
        check.due("the STACK of one that called is reached", 6, mill.result(0));
        logged(mill, "made by METHOD 1", 0, 3, 5, 1, 5, 5);
        Filer given = filer(38, 0, 47, 1, 0, 0, 50).method(0, new int[] {REF}, 1, 1, 2, 4, 0, 38, 0, 5, 49);
        mill = inRoom(8, given);
        mill.run(99);
        check.due("what was handed over and overwritten is not", 2, mill.state());
        logged(mill, "made by METHOD 1", 0, 3, 4, 1, 5, 0);

        // A ring of two objects and an ARRAY in a FIELD, reached from one LOCAL; garbage between them.
        mill = inRoom(20, filer(38, 0, 4, 2, 0, 4, 41, 5, 3, 2, 38, 1, 40, 0, 2, 3, 2, 39, 0, 2, 3, 2, 40, 0, 2,
            3, 2, 0, 2, 41, 40, 0, 1, 3, 2, 39, 0, 1, 0, 1, 0, 77, 43, 38, 2, 5,
            3, 2, 39, 0, 2, 39, 0, 2, 39, 0, 1, 0, 1, 42, 50));
        mill.run(99);
        check.due("a ring", 2, mill.state());
        check.due("what it holds", 77, mill.result(1));
        logged(mill, "a ring", 0, 3, 21, 0, 20, 14);
        check.due("one ENTRY", 1, mill.total(4));
        check.due("USED", 16, mill.total(5));
        check.due("NUMBER", 5, mill.total(6));
    }

    // ---- what is seen

    private static void frames() {
        TierMill mill = seen().loaded();
        mill.room(100);
        mill.start(40, 41, 42, 43);
        check.due("before all", 0, mill.frame(0, 1));
        check.due("LOCAL 0", 40, mill.local(0, 0));
        check.due("LOCAL 1", 41, mill.local(0, 1));
        TierMill first = mill;
        check.due("LOCAL 2 is NO", Check.NO_ELEMENT, () -> first.local(0, 2));
        mill.run(4);
        check.due("in METHOD 1", 1, mill.frame(0, 0));
        check.due("its PLACE", 0, mill.frame(0, 1));
        check.due("its STACK", 0, mill.frame(0, 3));
        check.due("its REF", 1, mill.local(0, 0));
        check.due("its INT", 5, mill.local(0, 1));
        check.due("the one that called", 0, mill.frame(1, 0));
        check.due("behind the call", 8, mill.frame(1, 1));
        check.due("without what was taken", 1, mill.frame(1, 3));
        check.due("its STACK", 41, mill.local(1, 100));
        check.due("no more on it", Check.NO_ELEMENT, () -> first.local(1, 101));
        check.due("no FRAME 2", -1, mill.frame(2, 0));
        check.due("no FRAME -1", -1, mill.frame(-1, 0));
        check.due("no what 4", -1, mill.frame(0, 4));
        check.due("no what -1", -1, mill.frame(0, -1));
        check.due("no LOCAL 3", Check.NO_ELEMENT, () -> first.local(0, 3));
        check.due("no LOCAL -1", Check.NO_ELEMENT, () -> first.local(0, -1));
        check.due("no LOCAL 99", Check.NO_ELEMENT, () -> first.local(0, 99));
        check.due("no FRAME 2's LOCAL", Check.NO_ELEMENT, () -> first.local(2, 0));
        check.due("no greatest", Check.NO_ELEMENT, () -> first.local(GREATEST, LEAST));
        mill.run(10);
        parts(mill);
        mill.run(100);
        check.due("at the end", 2, mill.state());
        check.due("no FRAMES", -1, mill.frame(0, 0));
        check.due("no LOCALS", Check.NO_ELEMENT, () -> first.local(0, 0));
    }

    /** METHOD 1 sets the FIELDS of a new object: INT 5, a new ARRAY of 2, itself. */
    private static Filer seen() {
        return filer(3, 1, 38, 0, 0, 5, 47, 1, 8, 50)
            .method(INT, new int[] {REF, INT}, 3, 4,
                3, 0, 3, 1, 40, 0, 0, 3, 0, 3, 0, 40, 0, 2, 3, 0, 0, 2, 41, 40, 0, 1, 3, 1, 50);
    }

    private static void parts(TierMill mill) {
        check.due("class", 0, mill.part(0, 0, 0));
        check.due("FIELDS", 3, mill.part(0, 0, 1));
        check.due("its INT", 5, mill.part(0, 0, 2));
        check.due("its ARRAY", 2, mill.part(0, 0, 3));
        check.due("itself", 1, mill.part(0, 0, 4));
        check.due("no FIELD 3", Check.NO_ELEMENT, () -> mill.part(0, 0, 5));
        check.due("no what -1", Check.NO_ELEMENT, () -> mill.part(0, 0, -1));
        check.due("no least", Check.NO_ELEMENT, () -> mill.part(0, 0, LEAST));
        check.due("no greatest", Check.NO_ELEMENT, () -> mill.part(0, 0, GREATEST));
        check.due("an INT has none", Check.NO_ELEMENT, () -> mill.part(0, 1, 0));
        check.due("KIND NO has none", Check.NO_ELEMENT, () -> mill.part(0, 2, 0));
        check.due("no FRAME 2", Check.NO_ELEMENT, () -> mill.part(2, 0, 0));
        TierMill arrays = filer(0, 2, 41, 4, 2, 2, 4, 3, 3, 2, 0, 1, 0, 9, 43, 0, 0, 50).loaded();
        arrays.start(0, 0, 0, 0);
        arrays.run(9);
        check.due("of an ARRAY", 16, arrays.part(0, 2, 0));
        check.due("its INTS", 2, arrays.part(0, 2, 1));
        check.due("its INT 0", 0, arrays.part(0, 2, 2));
        check.due("its INT 1", 9, arrays.part(0, 2, 3));
        check.due("no INT 2", Check.NO_ELEMENT, () -> arrays.part(0, 2, 4));
        check.due("null is 0", 0, arrays.local(0, 3));
        check.due("null has no parts", Check.NO_ELEMENT, () -> arrays.part(0, 3, 0));
    }

    private static void inAndOut() {
        TierMill mill = filer(52, 51, 52, 52, 9, 51, 0, 0, 50).loaded();
        mill.give(7);
        mill.give(-8);
        mill.give(3);
        mill.give(11);
        mill.start(0, 0, 0, 0);
        mill.run(3);
        check.due("inputs that are left", 2, mill.total(8));
        check.due("put out", 1, mill.total(2));
        check.due("number 0", 7, mill.output(0));
        check.due("no number 1", Check.NO_ELEMENT, () -> mill.output(1));
        check.due("no number -1", Check.NO_ELEMENT, () -> mill.output(-1));
        mill.run(99);
        check.due("number 1", -11, mill.output(1));
        mill.start(0, 0, 0, 0);
        check.due("nothing is put out", 0, mill.total(2));
        check.due("no number any more", Check.NO_ELEMENT, () -> mill.output(0));
        check.due("inputs go on from RUN to RUN", 1, mill.total(8));
        mill.run(99);
        check.due("the input that was left", 11, mill.output(0));
        check.due("0 behind it", 0, mill.output(1));
    }

    private static void results() {
        TierMill mill = new Filer().cls(-1).method(REF, NO_TYPES, 0, 1, 38, 0, 50).loaded();
        check.due("result ahead of a RUN", 0, mill.result(0));
        mill.start(0, 0, 0, 0);
        check.due("result of a RUN under way", 0, mill.result(1));
        check.due("both STEPS", 2, mill.run(2000));
        check.due("it has ENDED", 2, mill.state());
        check.due("no INT was RETURNED", 0, mill.result(1));
        check.due("no result(2)", -1, mill.result(2));
        check.due("no result(-1)", -1, mill.result(-1));
        check.due("run behind the end", Check.STATE, () -> mill.run(1));
        check.due("all else stays", 2, mill.total(5));
        TierMill no = new Filer().method(0, NO_TYPES, 0, 0, 49).loaded();
        no.start(1, 2, 3, 4);
        no.run(1);
        check.due("nothing was RETURNED", 0, no.result(1));
        check.due("and it has ENDED", 2, no.state());
        TierMill four = new Filer().method(INT, new int[] {INT, INT, INT, INT}, 4, 4,
            3, 0, 0, 10, 10, 3, 1, 8, 0, 10, 10, 3, 2, 8, 0, 10, 10, 3, 3, 8, 50).loaded();
        four.start(1, 2, 3, 4);
        four.run(99);
        check.due("four PARAMETERS", 1234, four.result(1));
    }

    public static void main(String[] args) {
        calculating();
        jumping();
        objects();
        trapping();
        collecting();
        reaching();
        frames();
        inAndOut();
        results();
        check.end();
    }
}
