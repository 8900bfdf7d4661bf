/** The edges of the calls that only look, promises 11 to 21: a test of its own for each sentence that names one. */
final class EdgeSightTest {
    private static final int INT = 1, ARRAY = 2, REF = 16;
    private static final int LEAST = Integer.MIN_VALUE, GREATEST = Integer.MAX_VALUE;
    private static final int[] NO_TYPES = {};
    private static final Check check = new Check();

    // ---- promises 11 and 12

    private static void states() {
        check.says("0 no RUN, 1 under way, 2 ENDED (no FRAMES are there, all else is as it was), 3 over by a TRAP "
            + "(FRAMES are as they were)");
        TierMill mill = new TierMill();
        check.due("a new object", 0, mill.state());
        Busy.giving(5).loadInto(mill);
        check.due("a FILE", 0, mill.state());
        mill.start(0, 0, 0, 0);
        check.due("begun", 1, mill.state());
        mill.run(1);
        check.due("under way", 1, mill.state());
        mill.run(1);
        check.due("ENDED", 2, mill.state());
        mill.start(0, 0, 0, 0);
        check.due("begun again", 1, mill.state());
        Seen.Way last = m -> {
            Busy.file().loadInto(m);
            m.give(4);
            m.start(1, 8, 0, 0);
            m.run(21);
        };
        TierMill near = new TierMill();
        last.go(near);
        check.due("the last STEP", 1, () -> near.run(2));
        check.due("ENDED", 2, near.state());
        check.alike("all else is as it was", last, m -> {
            last.go(m);
            m.run(1);
        }, framesOf(near, "state()", "result(1)", "total(0)", "total(1)", "total(3)"));
        TierMill over = new TierMill();
        Busy.trapped(over);
        check.due("over by a TRAP", 3, over.state());
        check.due("FRAMES are as they were", 2, over.total(3));
    }

    /** These calls, and all that are asked of the one FRAME that was there. */
    private static String[] framesOf(TierMill ended, String... calls) {
        String all = String.join(";", calls);
        for (int what = 0; what < 4; what++) {
            all += ";frame(0, " + what + ");frame(1, " + what + ")";
        }
        for (int i = 0; i <= 8; i++) {
            all += ";local(0, " + i + ");local(0, " + (100 + i) + ")";
            for (int what = 0; what < 8; what++) {
                all += ";part(0, " + i + ", " + what + ");part(0, " + (100 + i) + ", " + what + ")";
            }
        }
        check.due("no FRAMES", 0, ended.total(3));
        return all.split(";");
    }

    private static void results() {
        check.says("Of a RUN that is over, what 0: its TRAP (0 if it has ENDED), 1: what METHOD 0 RETURNED, if that "
            + "was an INT and there was no TRAP (else 0). 0 if none is over; NONE for another what.");
        TierMill mill = new TierMill();
        resultsAre("a new object", mill, 0, 0);
        Busy.giving(5).loadInto(mill);
        resultsAre("no RUN", mill, 0, 0);
        mill.start(0, 0, 0, 0);
        mill.run(1);
        resultsAre("under way", mill, 0, 0);
        mill.run(1);
        resultsAre("ENDED", mill, 0, 5);
        mill.start(0, 0, 0, 0);
        resultsAre("under way again", mill, 0, 0);
        TierMill over = new TierMill();
        Busy.trapped(over);
        resultsAre("a TRAP", over, 4, 0);
        over.start(0, 0, 0, 0);
        resultsAre("under way behind a TRAP", over, 0, 0);
        TierMill nothing = new Filer().method(0, NO_TYPES, 0, 1, 0, 9, 49).loaded();
        nothing.start(0, 0, 0, 0);
        nothing.run(2);
        resultsAre("nothing was RETURNED", nothing, 0, 0);
        TierMill object = new Filer().cls(-1).method(REF, NO_TYPES, 0, 2, 38, 0, 38, 0, 50).loaded();
        object.start(0, 0, 0, 0);
        object.run(3);
        resultsAre("an object was RETURNED", object, 0, 0);
        TierMill array = new Filer().method(ARRAY, NO_TYPES, 0, 1, 0, 3, 41, 50).loaded();
        array.start(0, 0, 0, 0);
        array.run(3);
        resultsAre("an ARRAY was RETURNED", array, 0, 0);
        for (int number : new int[] {LEAST, -1, GREATEST}) {
            TierMill same = new Filer().method(INT, Filer.types(INT), 1, 1, 3, 0, 50).loaded();
            same.start(number, 0, 0, 0);
            same.run(2);
            resultsAre("RETURNED " + number, same, 0, number);
        }
    }

    private static void resultsAre(String what, TierMill mill, int trap, int returned) {
        check.due(what + ": result(0)", trap, mill.result(0));
        check.due(what + ": result(1)", returned, mill.result(1));
        for (int other : new int[] {LEAST, -1, 2, 3, GREATEST}) {
            check.due(what + ": result(" + other + ")", -1, mill.result(other));
        }
    }

    // ---- promise 13

    private static void outputs() {
        check.says("The k-th number that was put out in this RUN (the first 500 are kept). NoSuchElementException: "
            + "there is none such.");
        TierMill mill = new Filer().method(0, Filer.types(INT), 1, 1, 3, 0, 51, 20, 0, 1, 21, 0).loaded();
        for (int k : new int[] {LEAST, -1, 0, 1, GREATEST}) {
            check.due("output(" + k + ") without a RUN", Check.NO_ELEMENT, () -> mill.output(k));
        }
        mill.start(GREATEST, 0, 0, 0);
        check.due("nothing is put out", Check.NO_ELEMENT, () -> mill.output(0));
        mill.run(1);
        check.due("nothing is put out yet", Check.NO_ELEMENT, () -> mill.output(0));
        mill.run(1);
        check.due("the first one", GREATEST, () -> mill.output(0));
        check.due("no second one", Check.NO_ELEMENT, () -> mill.output(1));
        mill.run(4);
        check.due("the second one", LEAST, () -> mill.output(1));
        mill.run(4 * 497);
        check.due("499 are put out", 499, mill.total(2));
        check.due("no number 499", Check.NO_ELEMENT, () -> mill.output(499));
        mill.run(4);
        check.due("500 are put out", 500, mill.total(2));
        check.due("number 499", LEAST + 498, () -> mill.output(499));
        mill.run(4);
        check.due("501 are put out", 501, mill.total(2));
        check.due("number 500 is not kept", Check.NO_ELEMENT, () -> mill.output(500));
        mill.run(4 * 2);
        check.due("503 are put out", 503, mill.total(2));
        check.due("the first one is kept", GREATEST, () -> mill.output(0));
        check.due("number 499 is kept", LEAST + 498, () -> mill.output(499));
        for (int k : new int[] {LEAST, -1, 500, 501, 502, 503, GREATEST}) {
            check.due("output(" + k + ")", Check.NO_ELEMENT, () -> mill.output(k));
        }
        mill.start(3, 0, 0, 0);
        check.due("in this RUN", Check.NO_ELEMENT, () -> mill.output(0));
        mill.run(2);
        check.due("in this RUN", 3, () -> mill.output(0));
        check.due("in this RUN", Check.NO_ELEMENT, () -> mill.output(1));
        TierMill over = new TierMill();
        Busy.trapped(over);
        check.due("behind a TRAP", 9, () -> over.output(0));
        check.due("no more behind a TRAP", Check.NO_ELEMENT, () -> over.output(1));
    }

    // ---- promises 14 to 16

    /** Three FRAMES: METHOD 0 with 2 LOCALS and 1 on its STACK, METHOD 1 with 8 and 7, METHOD 2 with none. */
    private static TierMill three() {
        TierMill mill = new Filer().cls(-1, INT, ARRAY)
            .method(0, Filer.types(INT), 2, 2, 0, 5, 38, 0, 47, 1, 49)
            .method(0, Filer.types(REF), 8, 8, 0, 1, 4, 7, 0, 1, 0, 2, 0, 3, 0, 4, 0, 5, 2, 3, 0, 47, 2, 49)
            .method(0, NO_TYPES, 0, 0, 49).loaded();
        mill.start(6, 0, 0, 0);
        mill.run(3 + 2 + 7 + 1);
        return mill;
    }

    private static void frames() {
        check.says("Of the k-th FRAME from the latest one (0) on, what 0: its METHOD, 1: its PLACE, 2: 0 PLAIN, 1 "
            + "COMPILED, 2 INLINED, 3: how many its STACK has (of one that called without what was taken). NONE if "
            + "there is none such (or no RUN), or for another what.");
        TierMill mill = three();
        int[][] want = {{2, 0, 0, 0}, {1, 19, 0, 7}, {0, 6, 0, 1}};
        for (int k = 0; k < 3; k++) {
            for (int what = 0; what < 4; what++) {
                check.due("frame(" + k + ", " + what + ")", want[k][what], mill.frame(k, what));
            }
            for (int what : new int[] {LEAST, -1, 4, 5, GREATEST}) {
                check.due("frame(" + k + ", " + what + ")", -1, mill.frame(k, what));
            }
        }
        TierMill over = new TierMill();
        Busy.ended(over);
        for (int k : new int[] {LEAST, -1, 3, 4, 63, 64, GREATEST}) {
            for (int what = 0; what < 4; what++) {
                check.due("frame(" + k + ", " + what + ")", -1, mill.frame(k, what));
            }
        }
        for (int what = 0; what < 4; what++) {
            check.due("no RUN", -1, new TierMill().frame(0, what));
            check.due("a FILE without a RUN", -1, Busy.endless().loaded().frame(0, what));
            check.due("a RUN that has ENDED", -1, over.frame(0, what));
        }
    }

    private static void locals() {
        check.says("LOCAL i of the k-th FRAME, or i - 100 of its STACK (0 the lowest): an INT, or the NUMBER of what "
            + "it is (0 null). NoSuchElementException: there is none such, or its KIND is NO.");
        TierMill mill = three();
        int none = Check.NO_ELEMENT;
        int[] i = {0, 1, 2, 6, 7, 8, 99, 100, 101, 105, 106, 107, 108, 200, -1, -100, -101, LEAST, LEAST + 100,
            GREATEST, GREATEST - 100};
        int[][] want = {
            {none, none, none, none, none, none, none, none, none, none, none, none, none},
            {1, none, none, none, 1, none, none, 1, 2, 0, 1, none, none},
            {6, none, none, none, none, none, none, 5, none, none, none, none, none}};
        for (int k = 0; k < 3; k++) {
            for (int at = 0; at < i.length; at++) {
                int kth = k;
                int ith = i[at];
                int due = at < want[k].length ? want[k][at] : none;
                check.due("local(" + k + ", " + ith + ")", due, () -> mill.local(kth, ith));
            }
        }
        TierMill over = new TierMill();
        Busy.ended(over);
        for (int k : new int[] {LEAST, -1, 3, 63, 64, GREATEST}) {
            check.due("local(" + k + ", 0)", none, () -> mill.local(k, 0));
            check.due("local(" + k + ", 100)", none, () -> mill.local(k, 100));
        }
        check.due("no RUN", none, () -> new TierMill().local(0, 0));
        check.due("a RUN that has ENDED", none, () -> over.local(0, 0));
    }

    private static void parts() {
        check.says("Of the object or ARRAY that this is, what 0: its class, 16 of an ARRAY, 1: how many FIELDS or "
            + "INTS it has, 2 + j: FIELD or INT j (as local() has it). NoSuchElementException: as there, or it is "
            + "an INT or null, or there is no such what.");
        int none = Check.NO_ELEMENT;
        TierMill mill = new Filer().cls(-1).cls(-1, INT, ARRAY, REF + 1)
            .method(0, NO_TYPES, 8, 3,
                38, 1, 4, 0, 3, 0, 0, 247, 40, 1, 0, 3, 0, 0, 2, 41, 6, 4, 1, 40, 1, 1, 3, 0, 3, 0, 40, 1, 2,
                3, 1, 0, 1, 0, 8, 43, 0, 0, 41, 4, 2, 38, 0, 4, 3, 2, 4, 4, 0, 1, 4, 5, 3, 1, 49).loaded();
        mill.start(0, 0, 0, 0);
        mill.run(2 + 3 + 6 + 3 + 4 + 3 + 2 + 2 + 2 + 1);
        int[][] want = {{1, 3, -9, 2, 1, none}, {16, 2, 0, 8, none}, {16, 0, none}, {0, 0, none}, {none}, {none},
            {none}, {none}, {none}};
        for (int i = 0; i < want.length; i++) {
            int ith = i;
            for (int what = 0; what < want[i].length; what++) {
                int w = what;
                check.due("part(0, " + i + ", " + w + ")", want[i][w], () -> mill.part(0, ith, w));
            }
            for (int what : new int[] {LEAST, -2, -1, 18, 5000, GREATEST - 1, GREATEST}) {
                check.due("part(0, " + i + ", " + what + ")", none, () -> mill.part(0, ith, what));
            }
        }
        check.due("of the STACK", 2, () -> mill.part(0, 100, 1));
        check.due("of the STACK: its INT 1", 8, () -> mill.part(0, 100, 3));
        check.due("above the STACK", none, () -> mill.part(0, 101, 0));
        for (int k : new int[] {LEAST, -1, 1, 64, GREATEST}) {
            check.due("part(" + k + ", 0, 0)", none, () -> mill.part(k, 0, 0));
        }
        for (int i : new int[] {LEAST, -1, 8, 99, 108, GREATEST}) {
            check.due("part(0, " + i + ", 0)", none, () -> mill.part(0, i, 0));
        }
        check.due("no RUN", none, () -> new TierMill().part(0, 0, 0));
        partsOfFrames();
        mostParts();
    }

    /** LOCAL 0 of METHOD 0 is an INT, that of METHOD 1 an object; its STACK has INTS, null and the object. */
    private static void partsOfFrames() {
        int none = Check.NO_ELEMENT;
        TierMill mill = three();
        int[] i = {0, 1, 7, 8, 100, 104, 105, 106, 107};
        int[][] classes = {
            {none, none, none, none, none, none, none, none, none},
            {0, none, none, none, none, none, none, 0, none},
            {none, none, none, none, none, none, none, none, none}};
        for (int k = 0; k < 3; k++) {
            for (int at = 0; at < i.length; at++) {
                int kth = k;
                int ith = i[at];
                check.due("class of " + ith + " of FRAME " + k, classes[k][at], () -> mill.part(kth, ith, 0));
                int parts = classes[k][at] == none ? none : 2;
                check.due("FIELDS of " + ith + " of FRAME " + k, parts, () -> mill.part(kth, ith, 1));
            }
        }
        check.due("its INT", 0, () -> mill.part(1, 0, 2));
        check.due("its ARRAY", 0, () -> mill.part(1, 106, 3));
        check.due("no FIELD 2", none, () -> mill.part(1, 106, 4));
    }

    private static void mostParts() {
        TierMill mill = new Filer().cls(-1, INT, INT, INT, INT).cls(0, INT, INT, INT, ARRAY)
            .method(0, NO_TYPES, 2, 3, 38, 1, 6, 2, 40, 1, 7, 4, 0, 1, 0x0F, 0x94, 41, 4, 1,
                3, 1, 1, 0x0F, 0x93, 0, 7, 43, 49).loaded();
        mill.room(4000);
        mill.start(0, 0, 0, 0);
        mill.run(12);
        check.due("8 FIELDS", 8, () -> mill.part(0, 0, 1));
        check.due("FIELD 7", 0, () -> mill.part(0, 0, 9));
        check.due("no FIELD 8", Check.NO_ELEMENT, () -> mill.part(0, 0, 10));
        check.due("3988 INTS", 3988, () -> mill.part(0, 1, 1));
        check.due("its last INT", 7, () -> mill.part(0, 1, 2 + 3987));
        check.due("the one before it", 0, () -> mill.part(0, 1, 2 + 3986));
        check.due("none behind it", Check.NO_ELEMENT, () -> mill.part(0, 1, 2 + 3988));
    }

    // ---- promises 17 to 21

    private static void methods() {
        check.says("Of a METHOD of the FILE, what 0: its COUNT, 1: 1 if it is COMPILED, else 0, 2: how many SITES are "
            + "INLINED in its PLAN (0 without). NONE if there is none such, or for another what; 0 without a RUN.");
        TierMill mill = new TierMill();
        for (int m : new int[] {LEAST, -1, 0, 15, 16, GREATEST}) {
            check.due("no FILE", -1, mill.method(m, 0));
        }
        Busy.file().loadInto(mill);
        for (int round = 0; round < 2; round++) {
            for (int m : new int[] {LEAST, -1, 3, 4, 15, 16, GREATEST}) {
                for (int what = 0; what < 3; what++) {
                    check.due("method(" + m + ", " + what + ")", -1, mill.method(m, what));
                }
            }
            for (int what : new int[] {LEAST, -1, 3, 4, GREATEST}) {
                check.due("method(0, " + what + ")", -1, mill.method(0, what));
                check.due("method(2, " + what + ")", -1, mill.method(2, what));
            }
            for (int m = 0; m < 3 && round == 0; m++) {
                for (int what = 0; what < 3; what++) {
                    check.due("without a RUN: method(" + m + ", " + what + ")", 0, mill.method(m, what));
                }
            }
            mill.start(9, 0, 0, 0);
            mill.run(92);
        }
        check.due("COUNT of METHOD 1", true, mill.method(1, 0) > 2);
        check.due("METHOD 1 is COMPILED", 1, mill.method(1, 1));
        check.due("its SITES", 1, mill.method(1, 2));
        check.due("METHOD 0 is not COMPILED", 0, mill.method(0, 1));
        check.due("0 without a PLAN", 0, mill.method(0, 2));
        Busy.file().loadInto(mill);
        check.due("0 without a RUN again", 0, mill.method(1, 0) + mill.method(1, 1) + mill.method(1, 2));
    }

    /** As many METHODS as there may be: the last one is there, the next one is not, whatever FILES there were. */
    private static void lastMethod() {
        check.says("NONE if there is none such, or for another what; 0 without a RUN.");
        TierMill mill = Busy.used();
        Filer most = new Filer().method(0, NO_TYPES, 1, 0, 47, 15, 47, 15, 49);
        for (int m = 1; m < 15; m++) {
            most.method(0, NO_TYPES, 1, 0, 49);
        }
        most.method(0, NO_TYPES, 1, 0, 47, 14, 49).loadInto(mill);
        mill.tiers(2, 1, 1, 120);
        mill.start(0, 0, 0, 0);
        mill.run(5);
        int[] there = {0, 2, 1, 1, 0, 1};
        int[] got = {mill.kind(15, 0, 0), mill.method(15, 0), mill.method(15, 1), mill.method(15, 2),
            mill.inlined(15, 0, 0), mill.profile(15, 0, 0)};
        for (int i = 0; i < 6; i++) {
            check.due("METHOD 15 is there: " + i, there[i], got[i]);
        }
        for (int m : new int[] {16, 17}) {
            noMethod(mill, m);
        }
        Busy.endless().loadInto(mill);
        Busy.endless().loadInto(mill);
        mill.tiers(1, 1, 1, 120);
        mill.start(0, 0, 0, 0);
        for (int m : new int[] {1, 2, 15, 16}) {
            noMethod(mill, m);
        }
    }

    private static void noMethod(TierMill mill, int m) {
        for (int what = 0; what < 3; what++) {
            check.due("method(" + m + ", " + what + ")", -1, mill.method(m, what));
            check.due("inlined(" + m + ", 0, " + what + ")", -1, mill.inlined(m, 0, what));
            check.due("kind(" + m + ", 0, " + what + ")", -1, mill.kind(m, 0, what));
            check.due("profile(" + m + ", " + what + ", 0)", -1, mill.profile(m, what, 0));
        }
    }

    private static void inlinedSites() {
        check.says("in the order in which they were), what 0: how deep it is, 1: the METHOD in which it is, 2: its "
            + "PLACE, 3: its GUARD (NONE without), 4: the METHOD that is called. NONE if there is none such, or "
            + "for another what.");
        TierMill mill = new TierMill();
        check.due("no FILE", -1, mill.inlined(0, 0, 0));
        Busy.file().loadInto(mill);
        check.due("no RUN", -1, mill.inlined(1, 0, 0));
        mill.start(9, 0, 0, 0);
        check.due("not COMPILED", -1, mill.inlined(1, 0, 0));
        mill.run(92);
        int[] want = {0, 1, 9, -1, 2};
        for (int what = 0; what < 5; what++) {
            check.due("inlined(1, 0, " + what + ")", want[what], mill.inlined(1, 0, what));
            for (int k : new int[] {LEAST, -1, 1, 2, 300, GREATEST}) {
                check.due("inlined(1, " + k + ", " + what + ")", -1, mill.inlined(1, k, what));
            }
            for (int m : new int[] {LEAST, -1, 0, 3, 15, 16, GREATEST}) {
                check.due("inlined(" + m + ", 0, " + what + ")", -1, mill.inlined(m, 0, what));
            }
        }
        for (int what : new int[] {LEAST, -1, 5, 6, GREATEST}) {
            check.due("inlined(1, 0, " + what + ")", -1, mill.inlined(1, 0, what));
        }
        mill.start(9, 0, 0, 0);
        check.due("a new RUN", -1, mill.inlined(1, 0, 0));
    }

    /** There is no SITE behind the CODE, whatever FILES there were. */
    private static void sitesBehindTheCode() {
        check.says("NONE if there is no such SITE or class");
        for (int length = 3; length <= 60; length++) {
            TierMill mill = Busy.usedBy(Busy.overAndOver(47, 1));
            new Filer().method(0, NO_TYPES, 8, 8, Filer.join(Filer.types(47, 0), Busy.filled(length - 2, 49)))
                .loadInto(mill);
            mill.start(0, 0, 0, 0);
            check.due("at PLACE 0", 0, mill.profile(0, 0, 0));
            for (int p = 1; p < length + 6; p++) {
                check.due("PLACE " + p + " of " + length, -1, mill.profile(0, p, 0));
            }
        }
    }

    private static void profiles() {
        check.says("NONE if there is no such SITE or class (of a 47 another c), or no RUN.");
        TierMill mill = new TierMill();
        check.due("no FILE", -1, mill.profile(0, 8, 0));
        Busy.file().loadInto(mill);
        check.due("no RUN", -1, mill.profile(0, 8, 0));
        mill.start(9, 0, 0, 0);
        check.due("0 at first", 0, mill.profile(0, 8, 0));
        mill.run(5);
        check.due("the 48", 1, mill.profile(0, 8, 0));
        check.due("of class 1", 0, mill.profile(0, 8, 1));
        for (int c : new int[] {LEAST, -1, 2, 3, 7, 8, GREATEST}) {
            check.due("class " + c, -1, mill.profile(0, 8, c));
        }
        mill.run(5);
        check.due("the 47", 1, mill.profile(1, 9, 0));
        for (int c : new int[] {LEAST, -1, 1, 2, 8, GREATEST}) {
            check.due("c " + c + " of a 47", -1, mill.profile(1, 9, c));
        }
        for (int p : new int[] {LEAST, -1, 0, 2, 6, 7, 9, 10, 18, 19, 20, 119, 120, 1500, GREATEST}) {
            check.due("PLACE " + p, -1, mill.profile(0, p, 0));
        }
        for (int m : new int[] {LEAST, -1, 2, 3, 15, 16, GREATEST}) {
            check.due("METHOD " + m, -1, mill.profile(m, 9, 0));
        }
        check.says("(of a 47: c is 0, also without classes)");
        TierMill plain = new Filer().method(0, NO_TYPES, 0, 0, 47, 0, 49).loaded();
        plain.start(0, 0, 0, 0);
        check.due("without classes", 0, plain.profile(0, 0, 0));
        plain.run(1);
        check.due("without classes, once", 1, plain.profile(0, 0, 0));
        check.due("without classes, c 1", -1, plain.profile(0, 0, 1));
        TierMill over = new TierMill();
        Busy.ended(over);
        check.due("behind the end", true, over.profile(0, 8, 0) > 0);
    }

    private static void logs() {
        check.says("Of the k-th ENTRY of the LOG, what 0: which one (1 to 3)");
        TierMill mill = new TierMill();
        check.due("no RUN", -1, mill.log(0, 0));
        Busy.run(mill);
        int entries = mill.total(4);
        check.due("ENTRIES", true, entries > 1);
        for (int what = 0; what < 5; what++) {
            check.due("ENTRY 0", true, mill.log(0, what) >= 0);
            check.due("the last ENTRY", true, mill.log(entries - 1, what) >= 0);
            for (int k : new int[] {LEAST, -1, entries, entries + 1, 299, 300, GREATEST}) {
                check.due("log(" + k + ", " + what + ")", -1, mill.log(k, what));
            }
        }
        for (int what : new int[] {LEAST, -1, 5, 6, GREATEST}) {
            check.due("log(0, " + what + ")", -1, mill.log(0, what));
        }
        mill.start(9, 0, 0, 0);
        check.due("a new RUN", -1, mill.log(0, 0));
    }

    /** One ENTRY of each kind: METHOD 2 is COMPILED with METHOD 3 in it, the heap is COLLECTED, a GUARD FAILS. */
    private static void entries() {
        check.says("2: the METHOD that was COMPILED, that of the COMPILED FRAME, or the one that made what did not "
            + "fit, 3: of 1 how many SITES were INLINED, of 2 the METHOD of the SITE, of 3 USED ahead of it, 4: of "
            + "1 its bytes of CODE with those of all INLINED ones, of 2 the SITE's PLACE, of 3 USED then.");
        TierMill mill = new Filer().cls(-1).cls(0).sel(0)
            .method(0, NO_TYPES, 0, 1,
                38, 0, 47, 2, 38, 0, 47, 2, 38, 0, 47, 2, 38, 1, 47, 2, 49)
            .method(0, Filer.types(REF), 1, 1, 0, 3, 41, 5, 49)
            .method(0, Filer.types(REF), 1, 1, 3, 0, 47, 3, 49)
            .method(0, Filer.types(REF), 1, 1, 3, 0, 48, 0, 49)
            .row(1).row(-1).loaded();
        mill.room(16);
        for (int round = 0; round < 2; round++) {
            entriesOf(mill);
        }
    }

    /** In the second RUN, too, the STEPS are those of the RUN. */
    private static void entriesOf(TierMill mill) {
        mill.start(0, 0, 0, 0);
        mill.run(2000);
        check.due("it has ENDED", 2, mill.state());
        // 12 STEPS a call of METHOD 2; each makes an object (2 CELLS) and an ARRAY (5 CELLS).
        int[][] want = {{1, 2 * 12 + 1, 2, 2, 5 + 5 + 5}, {3, 2 * 12 + 7, 1, 16, 2}, {2, 3 * 12 + 5, 2, 3, 2},
            {1, 3 * 12 + 5, 1, 0, 5}};
        check.due("ENTRIES", want.length, mill.total(4));
        for (int k = 0; k < want.length; k++) {
            for (int what = 0; what < 5; what++) {
                check.due("log(" + k + ", " + what + ")", want[k][what], mill.log(k, what));
            }
        }
    }

    private static void eachTotal() {
        check.says("What 0: STEPS of this RUN, 1: STEPS in all, 2: numbers put out, 3: FRAMES, 4: ENTRIES of the LOG, "
            + "5: USED, 6: the latest NUMBER, 7: how many were COMPILED in all RUNS, 8: inputs that are left, 9: "
            + "the room of this RUN.");
        TierMill mill = new TierMill();
        Busy.alone(mill);
        // A loop has 20 STEPS, and makes an object (5 CELLS) and an ARRAY (4 CELLS); the fourth one's object does not
        // fit; the fifth one is in METHOD 2, behind its ARRAY.
        int[] want = {92, 92, 4, 3, 2, 18, 10, 1, 1, 30};
        for (int what = 0; what < 10; what++) {
            check.due("total(" + what + ")", want[what], mill.total(what));
        }
        mill.start(1, 0, 0, 0);
        int[] begun = {0, 92, 0, 1, 0, 0, 0, 1, 1, 30};
        for (int what = 0; what < 10; what++) {
            check.due("begun: total(" + what + ")", begun[what], mill.total(what));
        }
        mill.run(2000);
        int[] over = {22, 114, 1, 0, 0, 9, 2, 1, 0, 30};
        for (int what = 0; what < 10; what++) {
            check.due("over: total(" + what + ")", over[what], mill.total(what));
        }
    }

    private static void totals() {
        check.says("NONE for another what. (0, 2 to 6, 9 are 0 without a RUN.)");
        Seen.Way[] ways = {m -> { }, Busy::run, Busy::ended, Busy::trapped};
        for (Seen.Way way : ways) {
            TierMill mill = new TierMill();
            way.go(mill);
            for (int what : new int[] {LEAST, -1, 10, 11, GREATEST}) {
                check.due("total(" + what + ")", -1, mill.total(what));
            }
            int stepsInAll = mill.total(1);
            int compiled = mill.total(7);
            int inputs = mill.total(8);
            Busy.giving(1).loadInto(freed(mill));
            for (int what : new int[] {0, 2, 3, 4, 5, 6, 9}) {
                check.due("without a RUN: total(" + what + ")", 0, mill.total(what));
            }
            check.due("STEPS in all stay", stepsInAll, mill.total(1));
            check.due("what was COMPILED in all RUNS stays", compiled, mill.total(7));
            check.due("inputs stay", inputs, mill.total(8));
        }
        TierMill over = new TierMill();
        Busy.ended(over);
        check.due("STEPS of a RUN that has ENDED", over.total(1), over.total(0));
        check.due("its FRAMES", 0, over.total(3));
        check.due("its room", 500, over.total(9));
        check.due("its NUMBERS", 6, over.total(6));
        check.due("its USED", 3 * 5 + 3 * 4, over.total(5));
        check.due("numbers put out", 3, over.total(2));
    }

    /** Without bytes that are put together. */
    private static TierMill freed(TierMill mill) {
        Check.answered(mill::load);
        return mill;
    }

    public static void main(String[] args) {
        states();
        results();
        outputs();
        frames();
        locals();
        parts();
        methods();
        lastMethod();
        inlinedSites();
        profiles();
        sitesBehindTheCode();
        logs();
        entries();
        eachTotal();
        totals();
        check.end();
    }
}
