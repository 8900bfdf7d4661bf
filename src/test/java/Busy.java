/** Ways to objects in all states, for the tests of the calls. */
final class Busy {
    private static final int INT = 1, ARRAY = 2, REF = 16;
    private static final int[] NO_TYPES = {};

    private Busy() {
    }

    static int[] filled(int count, int value) {
        int[] all = new int[count];
        java.util.Arrays.fill(all, value);
        return all;
    }

    static Filer endless() {
        return new Filer().method(0, NO_TYPES, 0, 0, 21, 0);
    }

    /** METHOD 0 RETURNS this number. */
    static Filer giving(int number) {
        return new Filer().method(INT, NO_TYPES, 0, 1, 0, number, 50);
    }

    /** A loop that sends to objects, makes ARRAYS and puts numbers out. */
    static Filer file() {
        return new Filer().cls(-1, INT, ARRAY, REF).cls(0).sel(INT, INT)
            .method(INT, Filer.types(INT, INT), 4, 3,
                38, 0, 4, 2, 3, 2, 3, 0, 48, 0, 51, 20, 0, 255, 3, 0, 26, 0, 52, 50)
            .method(INT, Filer.types(REF, INT), 3, 3, 3, 0, 3, 1, 40, 0, 0, 3, 1, 47, 2, 50)
            .method(INT, Filer.types(INT), 1, 2, 0, 2, 41, 5, 3, 0, 50)
            .row(1).row(-1);
    }

    /** A RUN is under way, with all that can be seen; three bytes of another FILE are put together. */
    static void run(TierMill mill) {
        file().loadInto(mill);
        mill.put(0x00_00_01, 3);
        mill.room(30);
        mill.give(5);
        mill.give(-6);
        mill.start(9, 7, 0, 0);
        mill.run(92);
    }

    static void alone(TierMill mill) {
        file().loadInto(mill);
        mill.room(30);
        mill.give(5);
        mill.start(9, 7, 0, 0);
        mill.run(92);
    }

    static void ended(TierMill mill) {
        file().loadInto(mill);
        mill.give(4);
        mill.start(3, 8, 0, 0);
        mill.run(500);
    }

    /** It traps by an ARRAY of less than 0 INTS, with objects and a FRAME that called. */
    static void trapped(TierMill mill) {
        new Filer().cls(-1, INT).method(INT, NO_TYPES, 1, 2, 38, 0, 4, 0, 0, 9, 51, 0, 255, 47, 1, 50)
            .method(INT, Filer.types(INT), 1, 2, 3, 0, 41, 44, 50).loadInto(mill);
        mill.start(0, 0, 0, 0);
        mill.run(20);
    }

    /** Almost as much of all as a FILE may have, with an INSTRUCTION at each PLACE. */
    static Filer large() {
        Filer file = new Filer().cls(-1, INT, INT, ARRAY, REF + 7).cls(0, INT, INT, ARRAY, REF + 7);
        for (int c = 2; c < 8; c++) {
            file.cls(1);
        }
        int[] three = {REF + 7, REF + 7, REF + 7};
        for (int s = 0; s < 8; s++) {
            file.sel(REF + 7, three);
        }
        for (int m = 0; m < 16; m++) {
            int[] others = m < 8 ? Filer.types(INT, INT, INT) : three;
            file.method(REF + 7, Filer.join(new int[] {REF}, others), 8, 8, Filer.join(new int[] {2}, filled(69, 50)));
        }
        for (int c = 0; c < 8; c++) {
            file.row(15, 14, 13, 12, 11, 10, 9, 8);
        }
        return file;
    }

    /** An object that had large FILES before: nothing of them may be seen in the next one. */
    static TierMill used() {
        return usedBy(large());
    }

    static TierMill usedBy(Filer before) {
        TierMill mill = new TierMill();
        before.loadInto(mill);
        before.loadInto(mill);
        return mill;
    }

    /** METHODS of 120 bytes, each the same INSTRUCTIONS over and over, all of which may be come to. */
    static Filer overAndOver(int... code) {
        int[] all = {};
        while (all.length + code.length < 120) {
            all = Filer.join(all, code);
        }
        Filer file = new Filer();
        for (int m = 0; m < 11; m++) {
            file.method(0, NO_TYPES, 8, 8, Filer.join(all, new int[] {49}));
        }
        return file;
    }
}
