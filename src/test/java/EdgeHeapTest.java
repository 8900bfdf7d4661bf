/** The edges of THE HEAP: a test of its own for each sentence that names one. */
final class EdgeHeapTest {
    private static final int INT = 1, ARRAY = 2, REF = 16;
    private static final int LEAST = Integer.MIN_VALUE, GREATEST = Integer.MAX_VALUE;
    private static final int[] NO_TYPES = {};
    private static final int[] TWO = {INT, INT};
    private static final Check check = new Check();

    /** Class c of 8 has c FIELDS in all, all INTS; METHOD 0 (INT, INT) RETURNS INT. */
    private static Filer filer(int... code) {
        Filer file = new Filer().cls(-1);
        for (int c = 1; c < 8; c++) {
            file.cls(c - 1, INT);
        }
        return file.method(INT, TWO, 6, 6, code);
    }

    private static TierMill begun(int room, int a, int b, Filer file) {
        TierMill mill = file.loaded();
        mill.room(room);
        mill.start(a, b, 0, 0);
        return mill;
    }

    private static void logged(TierMill mill, String what, int k, int... entry) {
        for (int i = 0; i < entry.length; i++) {
            check.due(what + ": log(" + k + ", " + i + ")", entry[i], mill.log(k, i));
        }
    }

    private static void cells() {
        check.says("an object has 2 and one for each FIELD, an ARRAY 2 and one for each INT");
        for (int c = 0; c < 8; c++) {
            TierMill mill = begun(500, 0, 0, filer(38, c, 5, 0, 1, 50));
            mill.run(1);
            check.due("CELLS of class " + c, 2 + c, mill.total(5));
        }
        TierMill most = begun(10, 0, 0, new Filer().cls(-1, INT, INT, INT, INT).cls(0, INT, INT, INT, INT)
            .method(0, TWO, 2, 1, 38, 1, 49));
        most.run(1);
        check.due("CELLS of 8 FIELDS", 10, most.total(5));
        for (int length : new int[] {0, 1, 2, 100, 498}) {
            TierMill mill = begun(500, length, 0, filer(3, 0, 41, 44, 50));
            mill.run(2);
            check.due("CELLS of an ARRAY of " + length, 2 + length, mill.total(5));
        }
    }

    private static void numbers() {
        check.says("USED is 0 at first, and grows by what is made, which gets the next NUMBER (1, 2, ..)");
        TierMill mill = begun(500, 0, 0, filer(38, 0, 38, 1, 0, 3, 41, 5, 5, 5, 0, 1, 50));
        check.due("USED at first", 0, mill.total(5));
        check.due("no NUMBER at first", 0, mill.total(6));
        int[] used = {2, 5, 5, 10};
        int[] latest = {1, 2, 2, 3};
        for (int i = 0; i < 4; i++) {
            mill.run(1);
            check.due("USED", used[i], mill.total(5));
            check.due("NUMBER", latest[i], mill.total(6));
        }
        check.due("the first one's", 1, mill.local(0, 100));
        check.due("the second one's", 2, mill.local(0, 101));
        check.due("the third one's", 3, mill.local(0, 102));
        mill.run(3);
        check.due("USED behind them", 10, mill.total(5));
        mill.start(0, 0, 0, 0);
        check.due("USED of a new RUN", 0, mill.total(5));
        check.due("NUMBER of a new RUN", 0, mill.total(6));
        mill.run(1);
        check.due("the first NUMBER again", 1, mill.local(0, 100));
    }

    /** An ARRAY that is kept, then another one: together with the 4 CELLS besides they are exactly so many. */
    private static void exactly(int room, int first, int second, boolean fits) {
        TierMill mill = begun(room, first, second, filer(3, 0, 41, 4, 2, 3, 1, 41, 4, 3, 0, 1, 50));
        int together = 4 + first + second;
        String what = together + " CELLS in " + room;
        mill.run(2000);
        check.due(what + ": TRAP", fits ? 0 : 6, mill.result(0));
        check.due(what + ": ENTRIES", fits ? 0 : 1, mill.total(4));
        check.due(what + ": USED", fits ? together : 2 + first, mill.total(5));
        check.due(what + ": NUMBER", fits ? 2 : 1, mill.total(6));
        check.due(what + ": STEPS", fits ? 8 : 4, mill.total(0));
    }

    private static void room() {
        check.says("If USED and its CELLS together (as true numbers) are above the room, it is COLLECTED ahead of "
            + "that");
        for (int room : new int[] {8, 9, 10, 500, 3999, 4000}) {
            exactly(room, 3, room - 7, true);
            exactly(room, 3, room - 6, false);
            exactly(room, room - 4, 0, true);
            exactly(room, room - 4, 1, false);
            exactly(room, room - 3, 0, false);
            exactly(room, room - 2, 0, false);
        }
        check.says("(as true numbers)");
        for (int length : new int[] {GREATEST, GREATEST - 1, GREATEST - 2, GREATEST - 6, 1 << 30}) {
            TierMill mill = begun(4000, length, 0, filer(38, 2, 4, 2, 3, 0, 41, 44, 50));
            mill.run(9);
            check.due("an ARRAY of " + length, 6, mill.result(0));
            check.due("what it would take is there yet", length, mill.local(0, 100));
            logged(mill, "an ARRAY of " + length, 0, 3, 3, 0, 4, 4);
        }
        check.says("(also if there can be no room in any case)");
        TierMill mill = begun(8, 7, 0, filer(38, 2, 5, 3, 0, 41, 44, 50));
        mill.run(9);
        check.due("9 CELLS in 8", 6, mill.result(0));
        check.due("it was COLLECTED", 0, mill.total(5));
        logged(mill, "9 CELLS in 8", 0, 3, 3, 0, 4, 0);
        mill = begun(8, 6, 0, filer(38, 2, 5, 3, 0, 41, 44, 50));
        mill.run(9);
        check.due("8 CELLS in 8", 6, mill.result(1));
        logged(mill, "8 CELLS in 8", 0, 3, 3, 0, 4, 0);
        TierMill object = begun(8, 0, 0, filer(38, 7, 5, 0, 1, 50));
        check.due("an object of 9 CELLS in 8", 0, object.run(9));
        check.due("an object of 9 CELLS in 8: TRAP", 6, object.result(0));
        logged(object, "an object of 9 CELLS in 8", 0, 3, 0, 0, 0, 0);
        TierMill fits = begun(9, 0, 0, filer(38, 7, 5, 0, 1, 50));
        check.due("an object of 9 CELLS in 9", 4, fits.run(9));
        check.due("nothing was COLLECTED", 0, fits.total(4));
    }

    /** All CELLS are there, also the last one, however often it was COLLECTED. */
    private static void lastCell() {
        check.says("THE HEAP has room for so many CELLS");
        for (int room : new int[] {8, 500, 3999, 4000}) {
            TierMill mill = begun(room, room - 2, 5, filer(
                3, 0, 41, 4, 2,                             // 0: an ARRAY that fills the heap
                3, 2, 3, 0, 0, 255, 8, 3, 1, 43,            // 5: its last INT becomes LOCAL 1
                3, 2, 3, 0, 0, 255, 8, 42, 51,              // 15: and is put out
                20, 1, 255, 3, 1, 26, 0, 0, 1, 50));        // 24
            mill.run(2000);
            check.due("it has ENDED", 2, mill.state());
            for (int k = 0; k < 5; k++) {
                check.due("the last INT of " + (room - 2), 5 - k, mill.output(k));
            }
            check.due("COLLECTED", 4, mill.total(4));
            for (int k = 0; k < 4; k++) {
                check.due("all is let go", room, mill.log(k, 3) - mill.log(k, 4));
            }
        }
    }

    private static void lessThanNone() {
        check.says("4 an ARRAY of less than 0 INTS");
        for (int length : new int[] {LEAST, -2, -1}) {
            TierMill mill = begun(8, length, 0, filer(38, 6, 5, 3, 0, 41, 44, 50));
            mill.run(9);
            check.due("TRAP 4 of " + length, 4, mill.result(0));
            check.due("nothing is COLLECTED for it", 0, mill.total(4));
            check.due("USED stays", 8, mill.total(5));
        }
    }

    private static void aboveEvenThen() {
        check.says("If it is above the room even then: TRAP 6.");
        // 4 CELLS are kept, 3 are not, then 4 or 5 are made in 8.
        TierMill mill = begun(8, 0, 0, filer(38, 2, 4, 2, 38, 1, 5, 38, 2, 5, 0, 1, 50));
        mill.run(99);
        check.due("just room", 2, mill.state());
        logged(mill, "just room", 0, 3, 4, 0, 7, 4);
        check.due("USED", 8, mill.total(5));
        mill = begun(8, 0, 0, filer(38, 2, 4, 2, 38, 1, 5, 38, 3, 5, 0, 1, 50));
        mill.run(99);
        check.due("one more", 6, mill.result(0));
        logged(mill, "one more", 0, 3, 4, 0, 7, 4);
        check.due("USED stays as COLLECTED", 4, mill.total(5));
        check.due("no NUMBER is taken", 2, mill.total(6));
        check.due("what is kept is there", 1, mill.local(0, 2));
        check.due("with its class", 2, mill.part(0, 2, 0));
        check.says("(but that the heap may have been COLLECTED for 6)");
        check.alike("TRAP 6", m -> trapping(m, 4), m -> trapping(m, 5),
            "state()", "result(0)", "total(4)", "total(5)",
            "log(0, 0)", "log(0, 1)", "log(0, 2)", "log(0, 3)", "log(0, 4)",
            "log(1, 0)", "log(1, 1)", "log(1, 2)", "log(1, 3)", "log(1, 4)");
        check.alike("TRAP 6 where nothing can be COLLECTED", m -> full(m, 2), m -> full(m, 3),
            "state()", "result(0)", "total(4)",
            "log(0, 0)", "log(0, 1)", "log(0, 2)", "log(0, 3)", "log(0, 4)",
            "log(1, 0)", "log(1, 1)", "log(1, 2)", "log(1, 3)", "log(1, 4)");
    }

    private static void trapping(TierMill mill, int steps) {
        filer(38, 2, 4, 2, 38, 1, 5, 38, 3, 5, 0, 1, 50).loadInto(mill);
        mill.room(8);
        mill.start(0, 0, 0, 0);
        mill.run(steps);
    }

    private static void full(TierMill mill, int steps) {
        filer(38, 6, 4, 2, 38, 0, 5, 0, 1, 50).loadInto(mill);
        mill.room(8);
        mill.start(0, 0, 0, 0);
        mill.run(steps);
    }

    // ---- what is REACHED

    /** Class 0 (REF 0, INT, ARRAY, REF 0), class 1 (no FIELDS) apart; room for so many CELLS. */
    private static TierMill kept(int room, int[] params, int... code) {
        TierMill mill = new Filer().cls(-1, REF, INT, ARRAY, REF).cls(-1)
            .method(INT, TWO, 6, 6, code)
            .method(0, params, 4, 4, 38, 0, 5, 2, 4, 0, 38, 0, 5, 49).loaded();
        mill.room(room);
        mill.start(0, 0, 0, 0);
        return mill;
    }

    private static void collected(String what, TierMill mill, int steps, int before, int after) {
        for (int i = 0; i < 60 && mill.state() == 1 && mill.total(4) == 0; i++) {
            mill.run(1);
        }
        check.due(what + ": one ENTRY", 1, mill.total(4));
        check.due(what + ": ENTRY 3", 3, mill.log(0, 0));
        check.due(what + ": STEPS ahead of it", steps, mill.log(0, 1));
        check.due(what + ": USED ahead of it", before, mill.log(0, 3));
        check.due(what + ": USED then", after, mill.log(0, 4));
    }

    private static void localsAndStacks() {
        check.says("what LOCALS and STACKS of all FRAMES have whose KIND is not NO");
        collected("a LOCAL", kept(8, NO_TYPES, 38, 0, 4, 2, 0, 1, 41, 5, 0, 1, 50), 3, 6, 6);
        collected("the STACK", kept(8, NO_TYPES, 38, 0, 0, 1, 41, 5, 5, 0, 1, 50), 2, 6, 6);
        collected("nothing", kept(8, NO_TYPES, 38, 0, 5, 0, 1, 41, 5, 0, 1, 50), 3, 6, 0);
        collected("a LOCAL that was set anew", kept(8, NO_TYPES, 38, 0, 4, 2, 2, 4, 2, 0, 1, 41, 5, 0, 1, 50), 5, 6, 0);
        collected("both, of the same one", kept(8, NO_TYPES, 38, 0, 6, 4, 2, 0, 1, 41, 5, 5, 0, 1, 50), 4, 6, 6);
        collected("an ARRAY", kept(8, NO_TYPES, 0, 4, 41, 4, 2, 0, 1, 41, 5, 0, 1, 50), 4, 6, 6);
        collected("LOCAL 5", kept(8, NO_TYPES, 38, 0, 4, 5, 0, 1, 41, 5, 0, 1, 50), 3, 6, 6);
        // LOCAL 2 is NO where two ways come together of which one did not set it.
        collected("KIND NO", kept(8, NO_TYPES, 52, 23, 7, 38, 0, 4, 2, 0, 1, 41, 5, 0, 1, 50), 5, 6, 0);
        collected("KIND ANY", kept(10, NO_TYPES, 52, 22, 7, 38, 1, 21, 9, 38, 0, 4, 2, 0, 3, 41, 5, 0, 1, 50),
            5, 6, 6);
        collected("an INT is no NUMBER", kept(8, NO_TYPES, 38, 0, 5, 0, 1, 4, 2, 0, 1, 41, 5, 0, 1, 50), 5, 6, 0);
        collected("INTS of an ARRAY are no NUMBERS", kept(8, NO_TYPES, 38, 1, 5, 0, 2, 41, 4, 2, 3, 2, 0, 0, 0, 1, 43,
            0, 1, 41, 5, 0, 1, 50), 10, 6, 4);
    }

    private static void framesThatCalled() {
        check.says("of others those before their call, less what that took");
        int[] one = {REF};
        collected("the STACK of one that called", kept(8, NO_TYPES, 38, 0, 47, 1, 5, 0, 1, 50), 2, 6, 6);
        collected("a LOCAL of one that called", kept(8, NO_TYPES, 38, 0, 4, 2, 47, 1, 0, 1, 50), 3, 6, 6);
        collected("what the call took is in a LOCAL", kept(8, one, 38, 0, 47, 1, 0, 1, 50), 2, 6, 6);
        collected("what the call took and was set anew", kept(12, one, 38, 0, 47, 1, 0, 1, 50), 6, 12, 0);
        collected("what the call took and is below it, too", kept(12, one, 38, 0, 6, 47, 1, 5, 0, 1, 50), 7, 12, 6);
    }

    /** METHOD 0 has nothing; METHOD 1 makes an object, keeps it on its STACK or in a LOCAL, and makes another one. */
    private static void latestFrame() {
        check.says("what LOCALS and STACKS of all FRAMES have whose KIND is not NO");
        int[][] codes = {{38, 0, 38, 0, 5, 5, 49}, {38, 0, 4, 0, 38, 0, 5, 49}, {38, 0, 5, 38, 0, 5, 49}};
        int[] steps = {2, 3, 3};
        int[] after = {6, 6, 0};
        for (int i = 0; i < 3; i++) {
            TierMill mill = new Filer().cls(-1, REF, INT, ARRAY, REF).method(0, NO_TYPES, 0, 0, 47, 1, 49)
                .method(0, NO_TYPES, 1, 2, codes[i]).loaded();
            mill.room(8);
            mill.start(0, 0, 0, 0);
            collected("METHOD 1's " + i, mill, steps[i], 6, after[i]);
            check.due("METHOD", 1, mill.log(0, 2));
        }
    }

    /** Three objects, two of them reached by several ways: each stays one. */
    private static void reachedTwice() {
        check.says("USED becomes the CELLS of all that can be REACHED");
        TierMill mill = kept(18, NO_TYPES, 38, 0, 4, 2, 38, 0, 4, 3, 3, 3, 4, 4, 3, 2, 3, 3, 40, 0, 0, 3, 2, 3, 3, 40, 0, 3,
            3, 3, 3, 2, 40, 0, 0, 38, 0, 5, 38, 0, 5, 3, 3, 3, 4, 36, 0, 0, 1, 50);
        collected("two of three", mill, 17, 18, 12);
        check.due("LOCAL 2", 1, mill.local(0, 2));
        check.due("LOCAL 3", 2, mill.local(0, 3));
        check.due("LOCAL 4", 2, mill.local(0, 4));
        check.due("FIELD 0 of LOCAL 2", 2, mill.part(0, 2, 2));
        check.due("FIELD 3 of LOCAL 2", 2, mill.part(0, 2, 5));
        check.due("FIELD 0 of LOCAL 3", 1, mill.part(0, 3, 2));
        check.due("FIELD 0 of LOCAL 4", 1, mill.part(0, 4, 2));
        mill.run(4);
        check.due("they are the same one", 0, mill.frame(0, 1));
    }

    private static void fields() {
        check.says("and what FIELDS of such objects have");
        collected("FIELD 0", kept(12, NO_TYPES, 38, 0, 4, 2, 3, 2, 38, 0, 40, 0, 0, 38, 1, 5, 0, 1, 50), 5, 12, 12);
        collected("FIELD 3", kept(12, NO_TYPES, 38, 0, 4, 2, 3, 2, 38, 0, 40, 0, 3, 38, 1, 5, 0, 1, 50), 5, 12, 12);
        collected("an ARRAY in FIELD 2", kept(12, NO_TYPES, 38, 0, 4, 2, 3, 2, 0, 4, 41, 40, 0, 2, 38, 1, 5, 0, 1, 50),
            6, 12, 12);
        collected("INT FIELD 1", kept(12, NO_TYPES, 38, 0, 5, 38, 0, 4, 2, 3, 2, 0, 1, 40, 0, 1, 38, 1, 5, 0, 1, 50),
            7, 12, 6);
        collected("a FIELD that was set anew", kept(12, NO_TYPES, 38, 0, 4, 2, 3, 2, 38, 0, 40, 0, 0, 3, 2, 2, 40, 0, 0,
            38, 1, 5, 0, 1, 50), 8, 12, 6);
        collected("itself", kept(8, NO_TYPES, 38, 0, 4, 2, 3, 2, 3, 2, 40, 0, 0, 38, 1, 5, 38, 1, 5, 0, 1, 50), 7, 8, 6);
        collected("twice the same one", kept(12, NO_TYPES, 38, 0, 4, 2, 38, 0, 4, 3, 3, 2, 3, 3, 40, 0, 0, 3, 2, 3, 3,
            40, 0, 3, 38, 1, 5, 0, 1, 50), 10, 12, 12);
        collected("a ring that is not reached", kept(12, NO_TYPES, 38, 0, 4, 2, 3, 2, 38, 0, 40, 0, 0, 3, 2, 39, 0, 0,
            3, 2, 40, 0, 0, 2, 4, 2, 38, 1, 5, 0, 1, 50), 11, 12, 0);
    }

    /** Class c alone has FIELDS; FIELD f of one that is kept has another object or an ARRAY, an INT in FIELD 1. */
    private static void fieldsOfEach() {
        check.says("and what FIELDS of such objects have");
        for (int c = 0; c < 8; c++) {
            for (int f : new int[] {0, 2, 3}) {
                Filer file = new Filer();
                for (int d = 0; d < 8; d++) {
                    file.cls(-1, d == c ? new int[] {REF + c, INT, ARRAY, REF + c} : NO_TYPES);
                }
                int[] other = f == 2 ? new int[] {0, 4, 41} : new int[] {38, c};
                int[] ahead = {38, c, 5, 38, c, 4, 2, 3, 2, 0, 1, 40, c, 1, 3, 2};
                TierMill mill = begun(18, 0, 0, file.method(INT, TWO, 6, 6, Filer.join(Filer.join(ahead, other),
                    new int[] {40, c, f, 38, c, 5, 0, 1, 50})));
                String what = "FIELD " + f + " of class " + c;
                collected(what, mill, f == 2 ? 11 : 10, 18, 12);
                check.due(what, 3, mill.part(0, 2, 2 + f));
                check.due(what + ": the INT", 1, mill.part(0, 2, 3));
                check.due(what + ": class", c, mill.part(0, 2, 0));
            }
        }
    }

    /** A chain of objects, each in FIELD 0 of the next one; then it is let go, and one more is made. */
    private static void chain() {
        check.says("USED becomes the CELLS of all that can be REACHED");
        TierMill mill = new Filer().cls(-1, REF, INT, ARRAY, REF).method(INT, TWO, 4, 4,
            2, 4, 2,                                    // 0
            38, 0, 4, 3,                                // 3: a new one
            3, 3, 3, 2, 40, 0, 0,                       // 7: the one before it becomes its FIELD 0
            3, 3, 4, 2,                                 // 14
            20, 0, 255, 3, 0, 26, 3,                    // 18: as often as LOCAL 0 tells
            2, 4, 2, 2, 4, 3, 38, 0, 5, 0, 1, 50).loaded();
        mill.room(4000);
        mill.start(666, 0, 0, 0);
        for (int i = 0; i < 4 && mill.state() == 1; i++) {
            mill.run(2000);
        }
        check.due("it has ENDED", 2, mill.state());
        check.due("one ENTRY", 1, mill.total(4));
        logged(mill, "the chain is let go", 0, 3, 2 + 6660 + 4, 0, 3996, 0);
        check.due("USED by the last one", 6, mill.total(5));
        check.due("NUMBERS", 667, mill.total(6));
        mill.start(667, 0, 0, 0);
        for (int i = 0; i < 4 && mill.state() == 1; i++) {
            mill.run(2000);
        }
        check.due("667 objects are too many", 6, mill.result(0));
        logged(mill, "all of them are REACHED", 0, 3, 2 + 6660, 0, 3996, 3996);
        check.due("the last one", 666, mill.local(0, 2));
        check.due("the one before it", 665, mill.part(0, 2, 2));
    }

    /** Chains of up to four objects, one after the other, are let go; what is COLLECTED tells nothing later on. */
    private static void chains() {
        check.says("USED becomes the CELLS of all that can be REACHED");
        for (int room = 30; room <= 80; room++) {
            TierMill mill = kept(room, NO_TYPES,
                0, 99, 4, 0, 2, 4, 2,                       // 0
                38, 0, 6, 3, 2, 40, 0, 0, 4, 2,             // 7: a new one ahead of the chain
                20, 0, 255, 3, 0, 0, 3, 13, 23, 30,         // 17: every fourth time
                2, 4, 2,                                    // 27: it is let go
                3, 0, 26, 7, 0, 1, 50);                     // 30
            mill.run(2000);
            check.due("it has ENDED", 2, mill.state());
            int used = 0;
            int inChain = 0;
            int entries = 0;
            for (int left = 98; left >= 0; left--) {
                if (used + 6 > room) {
                    check.due("USED ahead of it", used, mill.log(entries, 3));
                    check.due("USED then, room " + room, 6 * inChain, mill.log(entries, 4));
                    entries++;
                    used = 6 * inChain;
                }
                used += 6;
                inChain = left % 4 == 0 ? 0 : inChain + 1;
            }
            check.due("COLLECTED, room " + room, entries, mill.total(4));
            check.due("USED at the end, room " + room, used, mill.total(5));
        }
    }

    private static void seenTheSame() {
        check.says("which gets the next NUMBER (1, 2, ..)");
        // Three are made, the first is let go, a fourth one makes it COLLECT: NUMBERS stay.
        TierMill mill = kept(18, NO_TYPES, 38, 0, 5, 38, 0, 4, 2, 3, 2, 0, 4, 41, 40, 0, 2, 3, 2, 39, 0, 2, 0, 3, 0, 9, 43,
            38, 0, 4, 3, 3, 2, 39, 0, 2, 44, 50);
        mill.run(13);
        check.due("nothing was COLLECTED", 0, mill.total(4));
        mill.run(1);
        logged(mill, "COLLECTED", 0, 3, 13, 0, 18, 12);
        check.due("USED", 18, mill.total(5));
        check.due("the second NUMBER", 2, mill.local(0, 2));
        check.due("the third NUMBER", 3, mill.part(0, 2, 4));
        check.due("the fourth NUMBER", 4, mill.local(0, 100));
        check.due("NUMBERS in all", 4, mill.total(6));
        mill.run(1);
        check.due("the fourth one's FIELD", 0, mill.part(0, 3, 2));
        check.due("how many it has", 4, mill.part(0, 3, 1));
        mill.run(2);
        check.due("the ARRAY", 3, mill.local(0, 100));
        check.due("it is one", 16, mill.part(0, 100, 0));
        check.due("its INT 2", 0, mill.part(0, 100, 4));
        check.due("its INT 3", 9, mill.part(0, 100, 5));
    }

    /** What is COLLECTED has an ARRAY of 0, null in LOCALS, on the STACK and in FIELDS, INTS and garbage. */
    private static void nullsAndNothing() {
        check.says("what LOCALS and STACKS of all FRAMES have whose KIND is not NO");
        TierMill mill = kept(16, NO_TYPES, 38, 0, 5, 0, 0, 41, 4, 2, 2, 46, 0, 4, 3, 38, 0, 4, 4, 3, 4, 0, 1, 40, 0, 1,
            3, 4, 3, 2, 40, 0, 2, 0, 7, 4, 5, 2, 0, 8, 38, 1, 38, 1, 5, 5, 50);
        mill.run(21);
        check.due("nothing was COLLECTED", 0, mill.total(4));
        check.due("USED", 16, mill.total(5));
        mill.run(1);
        logged(mill, "COLLECTED", 0, 3, 21, 0, 16, 10);
        check.due("USED then", 12, mill.total(5));
        check.due("the ARRAY of 0", 2, mill.local(0, 2));
        check.due("it is an ARRAY", 16, mill.part(0, 2, 0));
        check.due("of 0", 0, mill.part(0, 2, 1));
        check.due("null", 0, mill.local(0, 3));
        check.due("null on the STACK", 0, mill.local(0, 100));
        check.due("an INT on the STACK", 8, mill.local(0, 101));
        check.due("an INT", 7, mill.local(0, 5));
        check.due("the object", 3, mill.local(0, 4));
        int[] parts = {0, 4, 0, 1, 2, 0};
        for (int what = 0; what < parts.length; what++) {
            check.due("the object's part " + what, parts[what], mill.part(0, 4, what));
        }
        check.due("null has no parts", Check.NO_ELEMENT, () -> mill.part(0, 3, 0));
        check.due("the new one", 5, mill.local(0, 103));
        check.due("the one before it", 4, mill.local(0, 102));
    }

    public static void main(String[] args) {
        cells();
        numbers();
        room();
        lastCell();
        lessThanNone();
        aboveEvenThen();
        localsAndStacks();
        framesThatCalled();
        latestFrame();
        reachedTwice();
        fields();
        fieldsOfEach();
        chain();
        chains();
        seenTheSame();
        nullsAndNothing();
        check.end();
    }
}
