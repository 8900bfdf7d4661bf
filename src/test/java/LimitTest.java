/** New objects, wrong inputs, and the limits of the calls: all promises. */
final class LimitTest {
    private static final int INT = 1, REF = 16;
    private static final int LEAST = Integer.MIN_VALUE, GREATEST = Integer.MAX_VALUE;
    private static final int[] NO_TYPES = {};
    private static final int[] ONE = {INT};
    private static final Check check = new Check();

    /** What an object answers that has no RUN. */
    private static void withoutRun(String what, TierMill mill, boolean hasFile) {
        check.due(what + ": state", 0, mill.state());
        check.due(what + ": run", Check.STATE, () -> mill.run(1));
        check.due(what + ": run of 2000", Check.STATE, () -> mill.run(2000));
        check.due(what + ": run of 0", Check.ARGUMENT, () -> mill.run(0));
        check.due(what + ": run of 2001", Check.ARGUMENT, () -> mill.run(2001));
        check.due(what + ": result(0)", 0, mill.result(0));
        check.due(what + ": result(1)", 0, mill.result(1));
        check.due(what + ": output", Check.NO_ELEMENT, () -> mill.output(0));
        for (int whatOf = 0; whatOf < 4; whatOf++) {
            check.due(what + ": frame", -1, mill.frame(0, whatOf));
        }
        check.due(what + ": local", Check.NO_ELEMENT, () -> mill.local(0, 0));
        check.due(what + ": part", Check.NO_ELEMENT, () -> mill.part(0, 0, 0));
        for (int whatOf = 0; whatOf < 3; whatOf++) {
            check.due(what + ": method", hasFile ? 0 : -1, mill.method(0, whatOf));
        }
        check.due(what + ": inlined", -1, mill.inlined(0, 0, 0));
        check.due(what + ": profile", -1, mill.profile(0, 0, 0));
        check.due(what + ": log", -1, mill.log(0, 0));
        for (int k : new int[] {0, 2, 3, 4, 5, 6, 9}) {
            check.due(what + ": total(" + k + ")", 0, mill.total(k));
        }
        check.due(what + ": total(10)", -1, mill.total(10));
        check.due(what + ": total(-1)", -1, mill.total(-1));
    }

    private static void newObject() {
        TierMill mill = new TierMill();
        withoutRun("a new object", mill, false);
        check.due("STEPS in all", 0, mill.total(1));
        check.due("COMPILED in all", 0, mill.total(7));
        check.due("inputs", 0, mill.total(8));
        check.due("start without a FILE", false, mill.start(0, 0, 0, 0));
        check.due("kind without a FILE", -1, mill.kind(0, 0, 0));
        new Filer().method(0, NO_TYPES, 0, 0, 47, 0, 49).loadInto(mill);
        withoutRun("a FILE", mill, true);
        mill.start(0, 0, 0, 0);
        check.due("room for 500 CELLS", 500, mill.total(9));
        mill.run(1);
        check.due("HOT 3", 0, mill.method(0, 1));
        mill.run(1);
        check.due("HOT 3", 1, mill.method(0, 1));
        check.due("SAMPLES 2, DEPTH 2", 2, mill.method(0, 2));
        new Filer().method(0, NO_TYPES, 0, 0, 47, 0, 49).loadInto(mill);
        withoutRun("a FILE loaded anew", mill, true);
        check.due("STEPS in all stay", 2, mill.total(1));
        check.due("COMPILED in all stay", 1, mill.total(7));
        defaultSize(40, 1);
        defaultSize(41, 0);
    }

    /** Whether a METHOD of so many bytes is INLINED by a new object. */
    private static void defaultSize(int bytes, int sites) {
        int[] code = new int[bytes];
        java.util.Arrays.fill(code, 49);
        TierMill mill = new Filer().method(0, ONE, 1, 1, 47, 1, 20, 0, 255, 3, 0, 26, 0, 49)
            .method(0, NO_TYPES, 0, 0, 47, 2, 49).method(0, NO_TYPES, 0, 0, code).loaded();
        mill.start(9, 0, 0, 0);
        mill.run(7 * 2 + 1);
        check.due("METHOD 1 is COMPILED", 1, mill.method(1, 1));
        check.due("SIZE 40 and " + bytes, sites, mill.method(1, 2));
    }

    private static void settings() {
        TierMill mill = new TierMill();
        int[][] wrong = {
            {0, 1, 1, 1}, {1001, 1, 1, 1}, {1, 0, 1, 1}, {1, 1001, 1, 1}, {1, 1, -1, 1}, {1, 1, 5, 1}, {1, 1, 1, -1},
            {1, 1, 1, 121}, {LEAST, 1, 1, 1}, {1, GREATEST, 1, 1}};
        for (int[] w : wrong) {
            check.due("wrong tiers", false, mill.tiers(w[0], w[1], w[2], w[3]));
        }
        check.due("the least tiers", true, mill.tiers(1, 1, 0, 0));
        check.due("the greatest tiers", true, mill.tiers(1000, 1000, 4, 120));
        for (int cells : new int[] {7, 0, -1, 4001, LEAST, GREATEST}) {
            check.due("wrong room", false, mill.room(cells));
        }
        check.due("room(4000)", true, mill.room(4000));
        check.due("room(8)", true, mill.room(8));
        new Filer().method(0, NO_TYPES, 0, 0, 47, 0, 49).loadInto(mill);
        mill.start(0, 0, 0, 0);
        check.due("the room of this RUN", 8, mill.total(9));
        mill.room(9);
        check.due("not of RUNS that have begun", 8, mill.total(9));
        check.due("wrong tiers change nothing", false, mill.tiers(1, 1, 4, 121));
        mill.run(5);
        check.due("not HOT", 0, mill.method(0, 1));
        mill.tiers(7, 5, 1, 3);
        mill.run(1);
        check.due("HOT from now on", 1, mill.method(0, 1));
        check.due("with SAMPLES 5, DEPTH 1", 1, mill.method(0, 2));
        mill.start(0, 0, 0, 0);
        check.due("the new room", 9, mill.total(9));
    }

    private static void inputs() {
        TierMill mill = new Filer().method(0, NO_TYPES, 0, 1, 52, 51, 21, 0).loaded();
        for (int i = 0; i < 100; i++) {
            check.due("give " + i, true, mill.give(i + 1));
        }
        check.due("give 100", false, mill.give(7));
        check.due("100 are left", 100, mill.total(8));
        mill.start(0, 0, 0, 0);
        mill.run(3 * 30);
        for (int i = 0; i < 30; i++) {
            check.due("give more", true, mill.give(1001 + i));
        }
        check.due("100 are left again", false, mill.give(7));
        mill.run(3 * 101);
        check.due("none is left", 0, mill.total(8));
        for (int k = 0; k < 130; k++) {
            check.due("in their order", k < 100 ? k + 1 : 1001 + k - 100, mill.output(k));
        }
        check.due("0 behind them", 0, mill.output(130));
    }

    private static void outputs() {
        TierMill mill = new Filer().method(0, ONE, 1, 1, 3, 0, 51, 20, 0, 1, 21, 0).loaded();
        mill.start(5, 0, 0, 0);
        mill.run(2000);
        check.due("500 are put out", 500, mill.total(2));
        check.due("the last of them", 504, mill.output(499));
        mill.run(400);
        check.due("600 are put out", 600, mill.total(2));
        check.due("the first 500 are kept", 5, mill.output(0));
        check.due("number 499", 504, mill.output(499));
        for (int k : new int[] {500, 599, 600, -1, LEAST, GREATEST}) {
            check.due("no number " + k, Check.NO_ELEMENT, () -> mill.output(k));
        }
    }

    private static void entries() {
        TierMill mill = new Filer().method(0, NO_TYPES, 0, 1, 0, 3, 41, 5, 21, 0).loaded();
        mill.room(8);
        mill.start(0, 0, 0, 0);
        mill.run(4 * 300 + 4);
        check.due("300 ENTRIES", 300, mill.total(4));
        check.due("the last one's STEPS", 4 * 300 + 1, mill.log(299, 1));
        mill.run(400);
        check.due("no more than 300", 300, mill.total(4));
        check.due("the last one stays", 4 * 300 + 1, mill.log(299, 1));
        check.due("no ENTRY 300", -1, mill.log(300, 0));
        check.due("the NUMBER goes on", 401, mill.total(6));
        check.due("no least ENTRY", -1, mill.log(LEAST, 0));
        check.due("no greatest what", -1, mill.log(0, GREATEST));
    }

    private static void steps() {
        TierMill mill = new Filer().method(0, NO_TYPES, 0, 0, 21, 0).loaded();
        Filer other = new Filer().method(INT, NO_TYPES, 0, 1, 0, 1, 50);
        mill.start(0, 0, 0, 0);
        for (int n : new int[] {0, -1, 2001, LEAST, GREATEST}) {
            check.due("run of " + n, Check.ARGUMENT, () -> mill.run(n));
        }
        for (int i = 0; i < 29; i++) {
            check.due("run", 2000, mill.run(2000));
        }
        other.loadInto(mill);
        mill.start(0, 0, 0, 0);
        check.due("another FILE", 2, mill.run(2000));
        check.due("STEPS of this RUN", 2, mill.total(0));
        check.due("STEPS in all", 58002, mill.total(1));
        new Filer().method(0, NO_TYPES, 0, 0, 21, 0).loadInto(mill);
        mill.start(0, 0, 0, 0);
        check.due("not all", 1997, mill.run(1997));
        check.due("as many as are left", 1, mill.run(2000));
        check.due("none is left", Check.ARITHMETIC, () -> mill.run(1));
        check.due("none is left", Check.ARITHMETIC, () -> mill.run(2000));
        check.due("a wrong n is ahead", Check.ARGUMENT, () -> mill.run(2001));
        check.due("it is under way", 1, mill.state());
        check.due("STEPS of this RUN", 1998, mill.total(0));
        check.due("STEPS in all", 60000, mill.total(1));
        check.due("start", true, mill.start(0, 0, 0, 0));
        check.due("none in a new RUN", Check.ARITHMETIC, () -> mill.run(1));
        other.loadInto(mill);
        check.due("no RUN is ahead", Check.STATE, () -> mill.run(1));
    }

    private static void plans() {
        TierMill mill = new Filer().method(0, NO_TYPES, 0, 0, 47, 1, 49).method(0, NO_TYPES, 0, 0, 49).loaded();
        mill.tiers(1, 1, 0, 0);
        for (int i = 0; i < 14; i++) {
            mill.start(0, 0, 0, 0);
            mill.run(9);
        }
        check.due("28 were COMPILED", 28, mill.total(7));
        mill.tiers(2, 1, 0, 0);
        mill.start(0, 0, 0, 0);
        check.due("still 28", 28, mill.total(7));
        mill.tiers(1, 1, 0, 0);
        mill.run(1);
        check.due("29", 29, mill.total(7));
        mill.start(0, 0, 0, 0);
        check.due("30", 30, mill.total(7));
        check.due("the last one", 1, mill.method(0, 1));
        mill.run(1);
        check.due("no more", 30, mill.total(7));
        check.due("not COMPILED", 0, mill.method(1, 1));
        check.due("PLAIN", 0, mill.frame(0, 2));
        check.due("but counted", 1, mill.method(1, 0));
        mill.start(0, 0, 0, 0);
        check.due("nor in another RUN", 0, mill.method(0, 1));
        check.due("nothing in the LOG", 0, mill.total(4));
    }

    private static void starts() {
        TierMill mill = new Filer().method(0, new int[] {INT, 2}, 2, 0, 49).loaded();
        check.due("a PARAMETER is no INT", false, mill.start(0, 0, 0, 0));
        check.due("no RUN", 0, mill.state());
        TierMill none = new Filer().method(0, NO_TYPES, 0, 0, 49).method(0, new int[] {2}, 1, 0, 49).loaded();
        check.due("those of METHOD 0 alone", true, none.start(LEAST, GREATEST, -1, 0));
        check.due("it is under way", 1, none.state());
        TierMill object = new Filer().cls(-1).method(0, new int[] {REF}, 1, 0, 49).loaded();
        check.due("a REF is no INT", false, object.start(0, 0, 0, 0));
    }

    /** Every call with every odd argument: nothing but what the document says is thrown. */
    private static void oddArguments() {
        int[] odd = {LEAST, LEAST + 1, -101, -1, 0, 1, 2, 7, 8, 16, 99, 100, 101, 107, 108, 120, 1500, GREATEST};
        for (int state = 0; state < 5; state++) {
            for (int a : odd) {
                one(inState(state), a);
                for (int b : odd) {
                    TierMill mill = inState(state);
                    two(mill, a, b);
                    for (int c : odd) {
                        three(mill, a, b, c);
                    }
                }
            }
        }
    }

    /** Without a FILE, without a RUN, under way, further on, over. */
    private static TierMill inState(int state) {
        if (state == 0) {
            return new TierMill();
        }
        TierMill mill = sending().loaded();
        if (state > 1) {
            mill.room(20);
            mill.start(state, 0, 0, 0);
            mill.run(state == 2 ? 7 : state == 3 ? 60 : 2000);
        }
        return mill;
    }

    private static Filer sending() {
        return new Filer().cls(-1, INT, REF).cls(0).sel(INT, INT)
            .method(INT, ONE, 3, 3, 38, 0, 4, 1, 3, 1, 3, 0, 48, 0, 51, 20, 0, 255, 3, 0, 26, 0, 3, 0, 50)
            .method(INT, new int[] {REF, INT}, 3, 3, 3, 1, 0, 1, 41, 4, 2, 50).row(1).row(-1);
    }

    private static void one(TierMill mill, int a) {
        mill.put(a, a);
        mill.room(a);
        mill.fault(a);
        mill.result(a);
        mill.total(a);
        mill.give(a);
        answered("output", () -> mill.output(a));
    }

    private static void two(TierMill mill, int a, int b) {
        mill.frame(a, b);
        mill.method(a, b);
        mill.log(a, b);
        answered("local", () -> mill.local(a, b));
    }

    private static void three(TierMill mill, int a, int b, int c) {
        mill.kind(a, b, c);
        mill.inlined(a, b, c);
        mill.profile(a, b, c);
        mill.tiers(a, b, c, a);
        answered("part", () -> mill.part(a, b, c));
    }

    private static void answered(String what, Check.Call call) {
        boolean fair = true;
        try {
            call.answer();
        } catch (RuntimeException e) {
            fair = e.getClass() == java.util.NoSuchElementException.class;
        }
        check.due(what + " throws nothing else", true, fair);
    }

    private static void readmeExample() {
        TierMill mill = new TierMill();
        mill.put(0x00_00_01_01_01_01_01_02L, 8);
        mill.put(0x06_03_00_03_00_0A_32L, 7);
        check.due("README: load", 1, mill::load);
        mill.start(7, 0, 0, 0);
        check.due("README: run", 4, mill.run(100));
        check.due("README: state", 2, mill.state());
        check.due("README: result", 49, mill.result(1));
    }

    public static void main(String[] args) {
        newObject();
        settings();
        inputs();
        outputs();
        entries();
        steps();
        plans();
        starts();
        oddArguments();
        readmeExample();
        check.end();
    }
}
