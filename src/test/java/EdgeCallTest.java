/** The edges of the calls that change something, promises 1 to 10: a test of its own for each sentence with one. */
final class EdgeCallTest {
    private static final int INT = 1, ARRAY = 2, REF = 16;
    private static final int LEAST = Integer.MIN_VALUE, GREATEST = Integer.MAX_VALUE;
    private static final int[] NO_TYPES = {};
    private static final Check check = new Check();

    // ---- refused calls

    /** It goes on to its end, and begins anew with the room and the TIERS that are set. */
    private static void goesOn(TierMill mill) {
        Check.answered(() -> mill.run(500));
        mill.start(6, 0, 0, 0);
        Check.answered(() -> mill.run(90));
    }

    /** What was put together becomes a FILE. */
    private static void goesOnLoading(TierMill mill) {
        mill.put(0x00_01_00_01_03_00_07_32L, 8);
        Check.answered(mill::load);
        mill.start(0, 0, 0, 0);
        Check.answered(() -> mill.run(2));
    }

    /** The call changes nothing: neither what is seen now, nor what comes of it. */
    private static void changesNothing(String what, Seen.Way before, Seen.Way call) {
        Seen.Way[] later = {mill -> { }, EdgeCallTest::goesOn, EdgeCallTest::goesOnLoading};
        for (int i = 0; i < later.length; i++) {
            Seen.Way then = later[i];
            check.alike(what + (i == 0 ? "" : i == 1 ? ", later" : ", loading"), mill -> {
                before.go(mill);
                then.go(mill);
            }, mill -> {
                before.go(mill);
                call.go(mill);
                then.go(mill);
            });
        }
    }

    private static void busyIsBusy() {
        TierMill mill = new TierMill();
        Busy.run(mill);
        check.due("under way", 1, mill.state());
        check.due("numbers are put out", true, mill.total(2) > 2);
        check.due("several FRAMES", true, mill.total(3) > 1);
        check.due("COMPILED, INLINED", true, mill.method(1, 2) > 0);
        check.due("COLLECTED", true, mill.total(4) > mill.total(7));
        check.due("inputs", 2, mill.total(8));
        goesOn(mill);
        check.due("a RUN anew", true, mill.state() != 0 && mill.total(0) <= 90);
        mill = new TierMill();
        Busy.run(mill);
        goesOnLoading(mill);
        check.due("what was put together is a FILE", 7, mill.result(1));
    }

    // ---- promise 1

    private static void newObject() {
        check.says("No FILE, no input; HOT 3, SAMPLES 2, DEPTH 2, SIZE 40, room for 500 CELLS.");
        TierMill mill = new TierMill();
        check.due("no FILE", false, mill.start(0, 0, 0, 0));
        check.due("no METHOD", -1, mill.method(0, 0));
        check.due("no input", 0, mill.total(8));
        check.due("nothing is put together", Check.ARGUMENT, mill::load);
        check.due("nothing is put together: its length", 0, mill.fault(1));
        Filer asks = new Filer().method(INT, NO_TYPES, 0, 1, 52, 50);
        asks.loadInto(mill);
        mill.start(0, 0, 0, 0);
        mill.run(2);
        check.due("no input is 0", 0, mill.result(1));
        check.due("room", 500, mill.total(9));
        for (int length = 498; length <= 499; length++) {
            TierMill heap = new Filer().method(0, Filer.types(INT), 1, 1, 3, 0, 41, 5, 49).loaded();
            heap.start(length, 0, 0, 0);
            heap.run(9);
            check.due("an ARRAY of " + length, length == 498 ? 0 : 6, heap.result(0));
        }
        newTiers();
    }

    private static void newTiers() {
        TierMill mill = new Filer().method(0, NO_TYPES, 0, 0, 47, 1, 21, 0).method(0, NO_TYPES, 0, 0, 49).loaded();
        mill.start(0, 0, 0, 0);
        mill.run(3 * 2);
        check.due("HOT 3: two calls", 0, mill.method(1, 1));
        mill.run(1);
        check.due("HOT 3: three calls", 1, mill.method(1, 1));
        // METHOD 1 calls METHOD 2 if the input is 0: when it is COMPILED, that has been so once or twice.
        for (int once = 0; once < 2; once++) {
            mill = new Filer().method(0, NO_TYPES, 0, 0, 47, 1, 21, 0)
                .method(0, NO_TYPES, 0, 1, 52, 23, 5, 47, 2, 49).method(0, NO_TYPES, 0, 0, 49).loaded();
            mill.give(once);
            mill.start(0, 0, 0, 0);
            mill.run(7 + 7 + 1 - 2 * once);
            check.due("COMPILED", 1, mill.method(1, 1));
            check.due("SAMPLES 2: " + (2 - once), 1 - once, mill.method(1, 2));
        }
        Filer chain = new Filer().method(0, NO_TYPES, 0, 0, 47, 1, 21, 0);
        for (int m = 1; m < 6; m++) {
            chain.method(0, NO_TYPES, 0, 0, 47, m + 1, 49);
        }
        mill = chain.method(0, NO_TYPES, 0, 0, 49).loaded();
        mill.start(0, 0, 0, 0);
        mill.run(2 * 13 + 1);
        check.due("DEPTH 2", 2, mill.method(1, 2));
        for (int size = 39; size <= 41; size++) {
            mill = new Filer().method(0, NO_TYPES, 0, 0, 47, 1, 21, 0).method(0, NO_TYPES, 0, 0, 47, 2, 49)
                .method(0, NO_TYPES, 0, 0, Busy.filled(size, 49)).loaded();
            mill.start(0, 0, 0, 0);
            mill.run(5 + 5 + 1);
            check.due("COMPILED", 1, mill.method(1, 1));
            check.due("SIZE 40: " + size, size <= 40 ? 1 : 0, mill.method(1, 2));
        }
    }

    // ---- promise 2

    private static void lowestBytes() {
        check.says("The n (1 .. 8) lowest bytes of word, the highest first, come behind the bytes that are put "
            + "together: true");
        int[] file = Busy.giving(7).bytes();
        for (int n = 1; n <= 8; n++) {
            for (int fill = 0; fill < 2; fill++) {
                TierMill mill = new TierMill();
                for (int from = 0; from < file.length;) {
                    int take = Math.min(n, file.length - from);
                    long word = fill == 0 ? 0 : -1;
                    for (int i = 0; i < take; i++) {
                        word = word << 8 | file[from + i];
                    }
                    check.due("put of " + take, true, mill.put(word, take));
                    from += take;
                }
                check.due("load", 1, mill::load);
                mill.start(0, 0, 0, 0);
                mill.run(2);
                check.due("its result by " + n, 7, mill.result(1));
            }
        }
        TierMill mill = new TierMill();
        mill.put(0x01_02_03_04_05_06_07_08L, 8);
        check.due("load", Check.ARGUMENT, mill::load);
        check.due("the highest byte is the first: SUPER 2 of class 0", 1, mill.fault(1));
        mill.put(0x80_00_00_00_00_00_00_00L, 8);
        check.due("load", Check.ARGUMENT, mill::load);
        check.due("a byte has no sign: 128 classes", 0, mill.fault(1));
    }

    private static void otherN() {
        check.says("false, changing nothing, for another n, or if there would be more than 1500");
        for (int n : new int[] {LEAST, LEAST + 1, -8, -1, 0, 9, 10, 16, 256, 1500, GREATEST}) {
            check.due("put of " + n, false, new TierMill().put(1, n));
            changesNothing("put of " + n, Busy::run, mill -> mill.put(0x0101010101010101L, n));
        }
        for (int there = 1492; there <= 1500; there++) {
            for (int n = 1; n <= 8; n++) {
                TierMill mill = new TierMill();
                Filer.putAll(mill, Busy.filled(there, 9));
                check.due(n + " bytes behind " + there, there + n <= 1500, mill.put(0, n));
                check.due("what is left", 1500 - there - (there + n <= 1500 ? n : 0), left(mill));
            }
        }
        int[] file = Filer.join(Busy.endless().bytes(), Busy.filled(1500 - Busy.endless().bytes().length, 0));
        changesNothing("a byte behind 1500", mill -> {
            Busy.file().loadInto(mill);
            mill.start(2, 0, 0, 0);
            Filer.putAll(mill, file);
        }, mill -> mill.put(0, 1));
        changesNothing("8 bytes behind 1493", mill -> {
            Busy.file().loadInto(mill);
            mill.start(2, 0, 0, 0);
            Filer.putAll(mill, java.util.Arrays.copyOf(file, 1493));
        }, mill -> mill.put(0, 8));
    }

    /** How many bytes more are taken, one by one. */
    private static int left(TierMill mill) {
        int left = 0;
        while (left < 20 && mill.put(0, 1)) {
            left++;
        }
        return left;
    }

    // ---- promise 3

    private static void loads() {
        check.says("What was put together (it is empty then in any case) becomes the FILE (no RUN any more): how many "
            + "METHODS.");
        TierMill mill = new TierMill();
        check.due("one METHOD", 1, () -> Busy.giving(3).loadInto(mill));
        check.due("it is empty then", Check.ARGUMENT, mill::load);
        check.due("it is empty then: its length", 0, mill.fault(1));
        check.due("the FILE is there yet", true, mill.start(0, 0, 0, 0));
        Filer.putAll(mill, 9, 9, 9);
        check.due("a FAULT", Check.ARGUMENT, mill::load);
        check.due("two METHODS", 2, () -> Busy.giving(4).method(0, NO_TYPES, 0, 0, 49).loadInto(mill));
        check.due("no RUN any more", 0, mill.state());
        check.due("no RUN any more", Check.STATE, () -> mill.run(1));
        mill.start(0, 0, 0, 0);
        mill.run(5);
        check.due("the new FILE", 4, mill.result(1));
        check.due("over", 2, mill.state());
        check.due("the same FILE again", 1, () -> Busy.giving(4).loadInto(mill));
        check.due("no result any more", 0, mill.result(1));
        check.due("METHOD 1 is there no more", -1, mill.method(1, 0));
        check.due("STEPS in all go on", 2, mill.total(1));
        Filer most = new Filer();
        for (int m = 0; m < 16; m++) {
            most.method(0, NO_TYPES, 0, 0, 49);
        }
        check.due("16 METHODS", 16, () -> most.loadInto(mill));
    }

    private static void loadIsRefused() {
        check.says("IllegalArgumentException: it has a FAULT (all else stays as it is).");
        int[][] faulty = {{}, {9}, Filer.join(Busy.giving(1).bytes(), new int[] {0}), {0, 0, 1, 0, 0, 0, 0, 1, 54},
            {0, 0, 2, 0, 0, 0, 0, 1, 49, 0, 0, 0, 0, 2, 5, 49}};
        int[][] faults = {{1, 0, 0}, {1, 0, 0}, {1, 11, 0}, {2, 0, 0}, {3, 0, 1}};
        Seen.Way[] before = {Busy::alone, Busy::ended, Busy::trapped, mill -> { },
            mill -> Busy.file().loadInto(mill)};
        for (int i = 0; i < faulty.length; i++) {
            int[] bytes = faulty[i];
            for (Seen.Way way : before) {
                TierMill mill = new TierMill();
                way.go(mill);
                Filer.putAll(mill, bytes);
                check.due("load", Check.ARGUMENT, mill::load);
                for (int what = 0; what < 3; what++) {
                    check.due("fault(" + what + ")", faults[i][what], mill.fault(what));
                }
                String[] but = differing(faults[i]);
                check.alike("a FAULT " + i, way, m -> refused(m, way, bytes), but);
                check.alike("a FAULT " + i + ", later", m -> {
                    way.go(m);
                    goesOn(m);
                }, m -> {
                    refused(m, way, bytes);
                    goesOn(m);
                }, but);
            }
        }
    }

    private static void refused(TierMill mill, Seen.Way way, int[] bytes) {
        way.go(mill);
        Filer.putAll(mill, bytes);
        Check.answered(mill::load);
    }

    private static String[] differing(int[] fault) {
        String all = "";
        for (int what = 0; what < 3; what++) {
            all += fault[what] != 0 ? " fault(" + what + ")" : "";
        }
        return all.trim().split(" ");
    }

    // ---- promise 4

    private static void faults() {
        check.says("NONE for another what. All are 0 ahead of any load().");
        TierMill mill = new TierMill();
        for (int round = 0; round < 3; round++) {
            for (int what : new int[] {LEAST, -1, 3, 4, GREATEST}) {
                check.due("fault(" + what + ")", -1, mill.fault(what));
            }
            for (int what = 0; what < 3; what++) {
                check.due("fault(" + what + ")", round == 2 ? new int[] {3, 1, 2}[what] : 0, mill.fault(what));
            }
            if (round == 0) {
                Busy.giving(1).loadInto(mill);
            } else {
                Filer.putAll(mill, new Filer().method(0, NO_TYPES, 0, 0, 49).method(0, NO_TYPES, 0, 0, 49)
                    .method(0, NO_TYPES, 0, 1, 2, 51, 49).bytes());
                Check.answered(mill::load);
            }
        }
        check.says("The FAULT of the latest load(), what 0: its kind (0 without), 1: its place (of kind 1 which byte, "
            + "else the PLACE; 0 without), 2: the METHOD (0 of kind 1, or without).");
        Filer.putAll(mill, 0, 0, 7);
        check.due("kind 3 yet", 3, mill.fault(0));
        check.due("load", Check.ARGUMENT, mill::load);
        check.due("kind 1", 1, mill.fault(0));
        check.due("which byte", 3, mill.fault(1));
        check.due("no METHOD", 0, mill.fault(2));
        Busy.giving(1).loadInto(mill);
        for (int what = 0; what < 3; what++) {
            check.due("without: fault(" + what + ")", 0, mill.fault(what));
        }
    }

    // ---- promises 6 to 8

    private static void tiers() {
        check.says("HOT (1 .. 1000), SAMPLES (1 .. 1000), DEPTH (0 .. 4), SIZE (0 .. 120) from now on: true; false, "
            + "changing nothing, for other numbers.");
        int[][] least = {{1, 1000}, {1, 1000}, {0, 4}, {0, 120}};
        for (int which = 0; which < 4; which++) {
            for (int side = 0; side < 2; side++) {
                for (int out : new int[] {0, 1, 2, 100000}) {
                    int[] t = {1, 1, 4, 120};
                    t[which] = least[which][side] + (side == 0 ? -out : out);
                    String what = "tiers(" + t[0] + ", " + t[1] + ", " + t[2] + ", " + t[3] + ")";
                    check.due(what, out == 0, new TierMill().tiers(t[0], t[1], t[2], t[3]));
                    if (out == 1) {
                        changesNothing(what, Busy::run, mill -> mill.tiers(t[0], t[1], t[2], t[3]));
                    }
                }
                int[] far = {1, 1, 4, 120};
                far[which] = side == 0 ? LEAST : GREATEST;
                check.due("far away", false, new TierMill().tiers(far[0], far[1], far[2], far[3]));
            }
        }
    }

    private static void rooms() {
        check.says("Room for so many CELLS (8 .. 4000) in RUNS that begin from now on: true; false, changing nothing, "
            + "for another number.");
        for (int cells : new int[] {LEAST, -8, -1, 0, 1, 7, 8, 9, 3999, 4000, 4001, 100000, GREATEST}) {
            boolean right = cells >= 8 && cells <= 4000;
            TierMill mill = Busy.endless().loaded();
            check.due("room(" + cells + ")", right, mill.room(cells));
            check.due("0 without a RUN", 0, mill.total(9));
            mill.start(0, 0, 0, 0);
            check.due("the room of the RUN", right ? cells : 500, mill.total(9));
            if (!right) {
                changesNothing("room(" + cells + ")", Busy::run, m -> m.room(cells));
            }
        }
        TierMill mill = new Filer().method(0, Filer.types(INT), 1, 1, 3, 0, 41, 5, 49).loaded();
        mill.room(10);
        mill.start(9, 0, 0, 0);
        mill.room(11);
        mill.run(9);
        check.due("the RUN that has begun keeps its room", 6, mill.result(0));
        check.due("its room", 10, mill.total(9));
        mill.start(9, 0, 0, 0);
        mill.room(8);
        mill.run(9);
        check.due("the next one has the new room", 0, mill.result(0));
        check.due("its room", 11, mill.total(9));
        check.due("a room that is refused", false, mill.room(7));
        Busy.endless().loadInto(mill);
        mill.start(0, 0, 0, 0);
        check.due("the room goes on from FILE to FILE", 8, mill.total(9));
    }

    private static void inputs() {
        check.says("One input more, behind those that are left (they go on from RUN to RUN): true; false, changing "
            + "nothing, if 100 are left.");
        Filer asks = new Filer().method(INT, NO_TYPES, 0, 1, 52, 50);
        TierMill mill = asks.loaded();
        for (int i = 0; i < 100; i++) {
            check.due("input " + i, true, mill.give(i == 0 ? LEAST : i == 99 ? GREATEST : i));
            check.due("inputs that are left", i + 1, mill.total(8));
        }
        check.due("101 inputs", false, mill.give(7));
        check.due("100 are left", 100, mill.total(8));
        mill.start(0, 0, 0, 0);
        mill.run(1);
        check.due("99 are left", 99, mill.total(8));
        check.due("one input more", true, mill.give(-5));
        check.due("101 inputs again", false, mill.give(7));
        mill.run(1);
        check.due("the first input", LEAST, mill.result(1));
        asks.loadInto(mill);
        check.due("they go on from FILE to FILE", 100, mill.total(8));
        for (int i = 1; i < 101; i++) {
            mill.start(0, 0, 0, 0);
            mill.run(2);
            if (i < 4 || i > 97) {
                check.due("input " + i, i == 100 ? -5 : i == 99 ? GREATEST : i, mill.result(1));
            }
        }
        check.due("none is left", 0, mill.total(8));
        mill.start(0, 0, 0, 0);
        mill.run(2);
        check.due("the one that was refused is not there", 0, mill.result(1));
        check.due("none is left yet", 0, mill.total(8));
        changesNothing("a 101st input", EdgeCallTest::hundred, m -> m.give(77));
    }

    private static void hundred(TierMill mill) {
        Busy.run(mill);
        for (int i = 0; i < 98; i++) {
            mill.give(i % 7);
        }
    }

    // ---- promise 9

    private static void starts() {
        check.says("with these as PARAMETERS of METHOD 0, as many as it has");
        int[] given = {LEAST, GREATEST, -1, 77};
        for (int params = 0; params <= 4; params++) {
            TierMill mill = new Filer().method(0, Busy.filled(params, INT), 5, 0, 49).loaded();
            check.due("start", true, mill.start(given[0], given[1], given[2], given[3]));
            for (int i = 0; i < 5; i++) {
                int at = i;
                check.due("LOCAL " + i + " of " + params, i < params ? given[i] : Check.NO_ELEMENT,
                    () -> mill.local(0, at));
            }
        }
        check.says("COUNTS, PROFILES are 0, nothing is COMPILED, in the heap, put out, in the LOG: true");
        check.alike("start in place of another RUN", mill -> {
            Busy.run(mill);
            mill.start(4, 5, 6, 7);
        }, mill -> {
            Busy.file().loadInto(mill);
            mill.room(30);
            mill.give(5);
            mill.give(-6);
            mill.start(4, 5, 6, 7);
        }, "total(1)", "total(7)");
        check.alike("start behind an end", mill -> {
            Busy.ended(mill);
            mill.start(4, 5, 6, 7);
            mill.run(30);
        }, mill -> {
            Busy.file().loadInto(mill);
            mill.start(4, 5, 6, 7);
            mill.run(30);
        }, "total(1)", "total(7)");
        check.says("false, changing nothing, if there is no FILE, or a PARAMETER of METHOD 0 is no INT");
        check.due("no FILE", false, new TierMill().start(1, 2, 3, 4));
        changesNothing("start without a FILE", mill -> mill.put(0x00_00_01, 3), mill -> mill.start(1, 2, 3, 4));
        for (int type : new int[] {ARRAY, REF, REF + 1}) {
            for (int which = 0; which < 4; which++) {
                int[] types = Busy.filled(4, INT);
                types[which] = type;
                Filer file = new Filer().cls(-1).cls(0).method(0, types, 4, 0, 49);
                check.due("PARAMETER " + which + " of TYPE " + type, false, file.loaded().start(0, 0, 0, 0));
                changesNothing("PARAMETER " + which, mill -> {
                    Busy.run(mill);
                    Check.answered(mill::load);
                    file.loadInto(mill);
                    mill.put(0x00_00_01, 3);
                }, mill -> mill.start(1, 2, 3, 4));
            }
        }
    }

    // ---- promise 10

    private static void runs() {
        check.says("At most n (1 .. 2000) STEPS: how many were done.");
        TierMill mill = Busy.endless().loaded();
        mill.start(0, 0, 0, 0);
        check.due("run(1)", 1, () -> mill.run(1));
        check.due("run(1999)", 1999, () -> mill.run(1999));
        check.due("run(2000)", 2000, () -> mill.run(2000));
        TierMill short3 = Busy.giving(1).loaded();
        short3.start(0, 0, 0, 0);
        check.due("no more than there are", 2, () -> short3.run(3));
        check.says("IllegalArgumentException: another n; IllegalStateException (asked behind that): no RUN is under "
            + "way");
        for (int n : new int[] {LEAST, -2000, -1, 0, 2001, 2002, 60000, GREATEST}) {
            check.due("run(" + n + ") under way", Check.ARGUMENT, () -> mill.run(n));
            check.due("run(" + n + ") without a RUN", Check.ARGUMENT, () -> new TierMill().run(n));
            check.due("run(" + n + ") behind the end", Check.ARGUMENT, () -> short3.run(n));
            changesNothing("run(" + n + ")", Busy::run, m -> Check.answered(() -> m.run(n)));
        }
        Seen.Way[] none = {m -> { }, m -> Busy.file().loadInto(m), Busy::ended, Busy::trapped};
        for (Seen.Way way : none) {
            for (int n : new int[] {1, 2000}) {
                TierMill over = new TierMill();
                way.go(over);
                check.due("run(" + n + ")", Check.STATE, () -> over.run(n));
                changesNothing("no RUN is under way", m -> {
                    way.go(m);
                    m.put(0x00_00_01, 3);
                }, m -> Check.answered(() -> m.run(n)));
            }
        }
    }

    /** So many STEPS have been done, by two FILES, and a RUN is under way. */
    private static void tired(TierMill mill, int steps) {
        Busy.giving(1).loadInto(mill);
        mill.start(0, 0, 0, 0);
        mill.run(2);
        Busy.file().loadInto(mill);
        Busy.endless().loadInto(mill);
        mill.start(0, 0, 0, 0);
        for (int left = steps - 2; left > 0; left -= 2000) {
            mill.run(Math.min(left, 2000));
        }
    }

    private static void stepsInAll() {
        check.says("ArithmeticException, changing nothing: 60000 STEPS have been done in all RUNS, whatever FILES "
            + "there were (if fewer than n are left, so many are done at most)");
        for (int left : new int[] {0, 1, 2, 1999, 2000}) {
            TierMill mill = new TierMill();
            tired(mill, 60000 - left);
            check.due("STEPS in all", 60000 - left, mill.total(1));
            check.due("run(2000) of " + left, left == 0 ? Check.ARITHMETIC : left, () -> mill.run(2000));
            check.due("STEPS in all then", 60000, mill.total(1));
            check.due("none is left", Check.ARITHMETIC, () -> mill.run(1));
            check.due("a wrong n is asked ahead of it", Check.ARGUMENT, () -> mill.run(0));
            check.due("it is under way yet", 1, mill.state());
            Busy.giving(2).loadInto(mill);
            check.due("that no RUN is under way is asked ahead of it", Check.STATE, () -> mill.run(1));
            check.due("a RUN may begin", true, mill.start(0, 0, 0, 0));
            check.due("but do nothing", Check.ARITHMETIC, () -> mill.run(1));
            check.due("its STEPS", 0, mill.total(0));
        }
        changesNothing("60000 STEPS", mill -> {
            tired(mill, 60000);
            mill.put(0x00_00_01, 3);
        }, mill -> Check.answered(() -> mill.run(1)));
        TierMill mill = new TierMill();
        tired(mill, 59998);
        Busy.giving(3).loadInto(mill);
        mill.start(0, 0, 0, 0);
        check.due("the last two STEPS", 2, () -> mill.run(2));
        check.due("it has ENDED", 2, mill.state());
        check.due("no RUN is under way", Check.STATE, () -> mill.run(1));
        TierMill trap = new TierMill();
        tired(trap, 59999);
        new Filer().method(0, NO_TYPES, 0, 1, 0, 255, 41, 5, 49).loadInto(trap);
        trap.start(0, 0, 0, 0);
        check.due("the last STEP, not the TRAP behind it", 1, () -> trap.run(2));
        check.due("under way", 1, trap.state());
    }

    /** An object is used for at most 512 calls: the last one answers like the first. */
    private static void lastCall() {
        check.says("An object is used for at most 512 calls after it has been made");
        TierMill mill = Busy.giving(9).loaded();
        int calls = 3;
        for (; calls < 510; calls++) {
            check.due("state", 0, mill.state());
        }
        check.due("call 511", true, mill.start(0, 0, 0, 0));
        check.due("call 512", 2, () -> mill.run(2000));
    }

    public static void main(String[] args) {
        busyIsBusy();
        newObject();
        lowestBytes();
        otherN();
        loads();
        loadIsRefused();
        faults();
        tiers();
        rooms();
        inputs();
        starts();
        runs();
        stepsInAll();
        lastCall();
        check.end();
    }
}
