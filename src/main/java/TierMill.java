import java.util.NoSuchElementException;

/** A machine for classes and methods in bytes, with tiers; the words in capitals are those of the document. */
public final class TierMill {
    public static final int NONE = -1;

    private static final int MOST_BYTES = 1500;
    private static final int MOST_CLASSES = 8;
    private static final int MOST_FIELDS = 8;
    private static final int MOST_SELECTORS = 8;
    private static final int MOST_METHODS = 16;
    private static final int MOST_PARAMS = 4;
    private static final int MOST_LOCALS = 8;
    private static final int MOST_STACK = 8;
    private static final int MOST_CODE = 120;
    private static final int MOST_FRAMES = 64;
    private static final int MOST_CELLS = 4000;
    private static final int MOST_INPUTS = 100;
    private static final int MOST_OUTPUTS = 500;
    private static final int MOST_ENTRIES = 300;
    private static final int MOST_PLANS = 30;
    private static final int MOST_INLINED_BYTES = 300;
    private static final int MOST_STEPS = 60000;
    private static final int MOST_STEPS_A_CALL = 2000;
    /** A bound for loops that end by themselves long before. */
    private static final int FAR_ABOVE = 1000000;

    private static final int NO = 0;
    private static final int INT = 1;
    private static final int ARRAY = 2;
    private static final int NULL = 3;
    private static final int ANY = 15;
    private static final int REF = 16;
    private static final int NOTHING = 0;

    private static final int NO_RUN = 0;
    private static final int UNDER_WAY = 1;
    private static final int ENDED = 2;
    private static final int TRAPPED = 3;

    private static final int PLAIN = 0;
    private static final int COMPILED = 1;
    private static final int INLINED = 2;

    private static final int ENTRY_COMPILED = 1;
    private static final int ENTRY_GUARD = 2;
    private static final int ENTRY_COLLECTED = 3;
    private static final int ENTRY_WIDTH = 5;

    private static final int TRAP_DIVISION = 1;
    private static final int TRAP_NULL = 2;
    private static final int TRAP_INDEX = 3;
    private static final int TRAP_LENGTH = 4;
    private static final int TRAP_CLASS = 5;
    private static final int TRAP_ROOM = 6;
    private static final int TRAP_FRAMES = 7;

    private static final int BYTE = 0;
    private static final int WORD = 1;
    private static final int PUSH_NULL = 2;
    private static final int GET = 3;
    private static final int SET = 4;
    private static final int DROP = 5;
    private static final int TWICE = 6;
    private static final int SWAP = 7;
    private static final int ADD = 8;
    private static final int SUBTRACT = 9;
    private static final int MULTIPLY = 10;
    private static final int DIVIDE = 11;
    private static final int REST = 12;
    private static final int AND = 13;
    private static final int OR = 14;
    private static final int EXCLUSIVE_OR = 15;
    private static final int SHIFT_LEFT = 16;
    private static final int SHIFT_RIGHT = 17;
    private static final int NEGATE = 19;
    private static final int ADD_LOCAL = 20;
    private static final int JUMP = 21;
    private static final int IF_ZERO = 22;
    private static final int IF_EQUAL = 28;
    private static final int IF_NULL = 34;
    private static final int IF_NOT_NULL = 35;
    private static final int IF_SAME = 36;
    private static final int IF_NOT_SAME = 37;
    private static final int NEW = 38;
    private static final int GET_FIELD = 39;
    private static final int SET_FIELD = 40;
    private static final int NEW_ARRAY = 41;
    private static final int GET_INT = 42;
    private static final int SET_INT = 43;
    private static final int LENGTH = 44;
    private static final int IS_OF = 45;
    private static final int CAST = 46;
    private static final int CALL = 47;
    private static final int SEND = 48;
    private static final int RETURN = 49;
    private static final int RETURN_VALUE = 50;
    private static final int OUT = 51;
    private static final int IN = 52;
    private static final int CHOOSE = 53;

    private static final int CALL_BYTES = 2;
    /** How many bytes each INSTRUCTION but CHOOSE has. */
    private static final int[] SIZES = {
        2, 3, 1, 2, 2, 1, 1, 1,
        1, 1, 1, 1, 1, 1, 1, 1, 1, 1, 1, 1, 3,
        2, 2, 2, 2, 2, 2, 2, 2, 2, 2, 2, 2, 2, 2, 2, 2, 2,
        2, 3, 3, 1, 1, 1, 1, 2, 2, 2, 2, 1, 1, 1, 1};
    /** How many each INSTRUCTION but CALL and SEND takes from the STACK. */
    private static final int[] TAKES = {
        0, 0, 0, 0, 1, 1, 1, 2,
        2, 2, 2, 2, 2, 2, 2, 2, 2, 2, 2, 1, 0,
        0, 1, 1, 1, 1, 1, 1, 2, 2, 2, 2, 2, 2, 1, 1, 2, 2,
        0, 1, 2, 1, 2, 3, 1, 1, 1, 0, 0, 0, 1, 1, 0, 1};
    /** How many each INSTRUCTION but CALL and SEND puts on the STACK. */
    private static final int[] PUTS = {
        1, 1, 1, 1, 0, 0, 2, 2,
        1, 1, 1, 1, 1, 1, 1, 1, 1, 1, 1, 1, 0,
        0, 0, 0, 0, 0, 0, 0, 0, 0, 0, 0, 0, 0, 0, 0, 0, 0,
        1, 1, 0, 1, 1, 0, 1, 1, 1, 0, 0, 0, 0, 0, 1, 0};

    private final Reader reader;
    private final Decoder decoder;
    private final Verifier verifier;
    private final Machine machine;
    private boolean hasFile;
    private Program file;
    /** Takes the bytes that are put; load() reads and verifies it in place, so that a FAULT leaves the FILE alone. */
    private Program next;
    private int faultKind;
    private int faultPlace;
    private int faultMethod;
    private int roomToCome;

    public TierMill() {
        file = new Program();
        next = new Program();
        reader = new Reader(next);
        decoder = new Decoder(next);
        verifier = new Verifier(next);
        machine = new Machine(file);
        roomToCome = 500;
    }

    public boolean put(long word, int n) {
        if (n < 1 || n > 8 || next.length + n > MOST_BYTES) {
            return false;
        }
        for (int i = n - 1; i >= 0; i--) {
            next.bytes.set(next.length, (int) (word >>> 8 * i) & 255);
            next.length++;
        }
        return true;
    }

    public int load() throws IllegalArgumentException {
        int wrongByte = reader.firstWrong(next);
        if (wrongByte != NONE) {
            keepFault(1, wrongByte, 0);
        } else if (decoder.findsFault(next)) {
            keepFault(2, decoder.faultPlace, decoder.faultMethod);
        } else if (verifier.findsFault(next)) {
            keepFault(3, verifier.faultPlace, verifier.faultMethod);
        } else {
            keepFault(0, 0, 0);
        }
        if (faultKind != 0) {
            next.length = 0;
            throw new IllegalArgumentException("the FILE has a FAULT");
        }
        Program old = file;
        file = next;
        next = old;
        next.length = 0;
        hasFile = true;
        machine.forget();
        return file.methodCount;
    }

    private void keepFault(int which, int place, int ofMethod) {
        faultKind = which;
        faultPlace = place;
        faultMethod = ofMethod;
    }

    public int fault(int what) {
        switch (what) {
            case 0: return faultKind;
            case 1: return faultPlace;
            case 2: return faultMethod;
            default: return NONE;
        }
    }

    public int kind(int method, int place, int i) {
        if (!hasFile || !file.begins(method, place)) {
            return NONE;
        }
        Shape shape = file.methodAt(method);
        int at = shape.codeAt + place;
        if (file.height.get(at) < 0) {
            return NONE;
        }
        int slot = slotNumber(i, shape.locals, file.height.get(at));
        return slot == NONE ? NONE : file.kindAt(at, slot);
    }

    /** LOCALS are slots 0 .. 7, the STACK has those behind. */
    private static int slotNumber(int i, int locals, int height) {
        if (i >= 0 && i < locals) {
            return i;
        }
        if (i >= 100 && i - 100 < height) {
            return MOST_LOCALS + i - 100;
        }
        return NONE;
    }

    public boolean tiers(int hot, int samples, int depth, int size) {
        if (hot < 1 || hot > 1000 || samples < 1 || samples > 1000) {
            return false;
        }
        if (depth < 0 || depth > 4 || size < 0 || size > 120) {
            return false;
        }
        Tiers settings = machine.tiers;
        settings.hot = hot;
        settings.samples = samples;
        settings.mostDeep = depth;
        settings.mostSize = size;
        return true;
    }

    public boolean room(int cells) {
        if (cells < 8 || cells > MOST_CELLS) {
            return false;
        }
        roomToCome = cells;
        return true;
    }

    public boolean give(int v) {
        return machine.takeInput(v);
    }

    public boolean start(int a, int b, int c, int d) {
        if (!hasFile) {
            return false;
        }
        Shape first = file.methodAt(0);
        for (int i = 0; i < first.params; i++) {
            if (first.types.get(i) != INT) {
                return false;
            }
        }
        machine.forget();
        machine.begin(file, roomToCome);
        machine.frames.setArguments(a, b, c, d);
        return true;
    }

    public int run(int n) throws IllegalArgumentException, IllegalStateException, ArithmeticException {
        if (n < 1 || n > MOST_STEPS_A_CALL) {
            throw new IllegalArgumentException("n is not 1 .. 2000");
        }
        if (machine.phase != UNDER_WAY) {
            throw new IllegalStateException("no RUN is under way");
        }
        int left = MOST_STEPS - machine.stepsInAll;
        if (left <= 0) {
            throw new ArithmeticException("60000 STEPS have been done");
        }
        int most = Math.min(n, left);
        for (int done = 0; done < most; done++) {
            if (machine.phase != UNDER_WAY) {
                return done;
            }
            int trap = machine.step();
            if (trap != 0) {
                machine.stop(trap);
                return done;
            }
            machine.steps++;
            machine.stepsInAll++;
        }
        return most;
    }

    public int state() {
        return machine.phase;
    }

    public int result(int what) {
        switch (what) {
            case 0: return machine.trap;
            case 1: return machine.returned;
            default: return NONE;
        }
    }

    public int output(int k) throws NoSuchElementException {
        if (k < 0 || k >= machine.outputCount || k >= MOST_OUTPUTS) {
            throw new NoSuchElementException("no such number was put out or kept");
        }
        return machine.outputs.get(k);
    }

    public int frame(int k, int what) {
        Frames frames = machine.frames;
        int f = frames.fromLatest(k);
        if (f == NONE) {
            return NONE;
        }
        switch (what) {
            case 0: return frames.methodOf.get(f);
            case 1: return frames.place.get(f);
            case 2: return frames.tier.get(f);
            case 3: return frames.height.get(f);
            default: return NONE;
        }
    }

    public int local(int k, int i) throws NoSuchElementException {
        int f = machine.frames.fromLatest(k);
        int slot = seenSlot(f, i);
        if (slot == NONE) {
            throw new NoSuchElementException("no such LOCAL, or its KIND is NO");
        }
        int value = machine.frames.slots.get(f * Frames.SLOTS + slot);
        return machine.seen(value, machine.frames.kindOf(file, f, slot) == INT);
    }

    public int part(int k, int i, int what) throws NoSuchElementException {
        int f = machine.frames.fromLatest(k);
        int slot = seenSlot(f, i);
        if (slot == NONE || machine.frames.kindOf(file, f, slot) == INT) {
            throw new NoSuchElementException("no such LOCAL, its KIND is NO, or it is an INT");
        }
        int ref = machine.frames.slots.get(f * Frames.SLOTS + slot);
        if (ref == 0) {
            throw new NoSuchElementException("it is null");
        }
        int tag = machine.heap.tagOf(ref);
        int parts = machine.heap.partsOf(file, tag);
        if (what < 0 || what - 2 >= parts) {
            throw new NoSuchElementException("no such what");
        }
        if (what == 0) {
            return Math.min(tag, REF);
        }
        if (what == 1) {
            return parts;
        }
        int value = machine.heap.partOf(ref, what - 2);
        return machine.seen(value, tag >= REF || file.typeOfField(tag, what - 2) == INT);
    }

    /** The slot of a FRAME that can be seen under this i: it is there, and its KIND is not NO. */
    private int seenSlot(int f, int i) {
        if (f == NONE) {
            return NONE;
        }
        Frames frames = machine.frames;
        int slot = slotNumber(i, file.methodAt(frames.methodOf.get(f)).locals, frames.height.get(f));
        if (slot == NONE || frames.kindOf(file, f, slot) == NO) {
            return NONE;
        }
        return slot;
    }

    public int method(int m, int what) {
        if (!hasFile || m < 0 || m >= file.methodCount) {
            return NONE;
        }
        Plan plan = machine.tiers.planOfMethod(m);
        switch (what) {
            case 0: return machine.tiers.counts.get(m);
            case 1: return plan == null ? 0 : 1;
            case 2: return plan == null ? 0 : plan.count;
            default: return NONE;
        }
    }

    public int inlined(int m, int k, int what) {
        if (!hasFile || m < 0 || m >= file.methodCount || what < 0 || what > Plan.CALLEE) {
            return NONE;
        }
        Plan plan = machine.tiers.planOfMethod(m);
        if (plan == null || k < 0 || k >= plan.count) {
            return NONE;
        }
        return plan.rows.get(k * Plan.WIDTH + what);
    }

    public int profile(int m, int place, int c) {
        if (machine.phase == NO_RUN || !file.begins(m, place)) {
            return NONE;
        }
        int at = file.methodAt(m).codeAt + place;
        int site = file.siteAt.get(at);
        if (site == NONE) {
            return NONE;
        }
        int classes = file.bytes.get(at) == CALL ? 1 : file.classCount;
        return c < 0 || c >= classes ? NONE : machine.tiers.profiles.get(site * MOST_CLASSES + c);
    }

    public int log(int k, int what) {
        if (k < 0 || k >= machine.entryCount || what < 0 || what >= ENTRY_WIDTH) {
            return NONE;
        }
        return machine.entries.get(k * ENTRY_WIDTH + what);
    }

    public int total(int what) {
        switch (what) {
            case 0: return machine.steps;
            case 1: return machine.stepsInAll;
            case 2: return machine.outputCount;
            case 3: return machine.frames.depth;
            case 4: return machine.entryCount;
            case 5: return machine.heap.used;
            case 6: return machine.heap.latest;
            case 7: return machine.tiers.planCount;
            case 8: return machine.inputCount;
            case 9: return machine.heap.cellsMost;
            default: return NONE;
        }
    }

    private static int numberIn(int[] constants, int i) {
        return i >= 0 && i < constants.length ? constants[i] : 0;
    }

    /** A row of numbers that can't be left: each index is tested before it is used, and beside the row there is 0. */
    private static final class Row {
        private final int[] numbers;

        Row(int length) {
            numbers = new int[Math.max(0, length)];
        }

        int get(int i) {
            return i >= 0 && i < numbers.length ? numbers[i] : 0;
        }

        void set(int i, int value) {
            if (i >= 0 && i < numbers.length) {
                numbers[i] = value;
            }
        }

        void add(int i, int more) {
            set(i, get(i) + more);
        }

        void fill(int from, int end, int value) {
            for (int i = from; i < end; i++) {
                set(i, value);
            }
        }
    }

    /** What a METHOD or a SELECTOR takes and RETURNS; a METHOD has LOCALS, a STACK and CODE besides. */
    private static final class Shape {
        final Row types;
        int params;
        int returns;
        int locals;
        int stackMost;
        int codeAt;
        int codeLength;

        Shape() {
            types = new Row(MOST_PARAMS);
        }
    }

    /** A FILE: its bytes, what they tell, and what was found out about each of them that begins an INSTRUCTION. */
    private static final class Program {
        final Row bytes;
        int length;
        int classCount;
        final Row superOf;
        /** Bit d is set for a class that is d or is BELOW it. */
        final Row above;
        final Row fieldCount;
        final Row fieldType;
        int selectorCount;
        private final Shape[] selectors;
        int methodCount;
        private final Shape[] methods;
        /** The METHOD that a class has for a SELECTOR, or NONE. */
        final Row table;
        /** How many bytes the INSTRUCTION has that begins at this byte (0: none begins). */
        final Row size;
        final Row siteAt;
        int siteCount;
        /** How many the STACK has before the INSTRUCTION; below 0 if it can't be come to. */
        final Row height;
        /** KINDS before the INSTRUCTION, 8 bits for each LOCAL, NO where there is none. */
        private final long[] localKinds;
        private final long[] stackKinds;

        Program() {
            bytes = new Row(MOST_BYTES);
            superOf = new Row(MOST_CLASSES);
            above = new Row(MOST_CLASSES);
            fieldCount = new Row(MOST_CLASSES);
            fieldType = new Row(MOST_CLASSES * MOST_FIELDS);
            selectors = new Shape[MOST_SELECTORS];
            for (int s = 0; s < MOST_SELECTORS; s++) {
                selectors[s] = new Shape();
            }
            methods = new Shape[MOST_METHODS];
            for (int m = 0; m < MOST_METHODS; m++) {
                methods[m] = new Shape();
            }
            table = new Row(MOST_CLASSES * MOST_SELECTORS);
            size = new Row(MOST_BYTES);
            siteAt = new Row(MOST_BYTES);
            height = new Row(MOST_BYTES);
            localKinds = new long[MOST_BYTES];
            stackKinds = new long[MOST_BYTES];
        }

        Shape methodAt(int m) {
            return methods[m >= 0 && m < MOST_METHODS ? m : 0];
        }

        Shape selectorAt(int s) {
            return selectors[s >= 0 && s < MOST_SELECTORS ? s : 0];
        }

        int typeOfField(int c, int f) {
            return fieldType.get(c * MOST_FIELDS + f);
        }

        boolean isOrBelow(int c, int d) {
            return (above.get(c) >> d & 1) != 0;
        }

        boolean begins(int m, int place) {
            if (m < 0 || m >= methodCount) {
                return false;
            }
            Shape shape = methodAt(m);
            return place >= 0 && place < shape.codeLength && size.get(shape.codeAt + place) != 0;
        }

        long localKindsAt(int at) {
            return at >= 0 && at < MOST_BYTES ? localKinds[at] : 0;
        }

        long stackKindsAt(int at) {
            return at >= 0 && at < MOST_BYTES ? stackKinds[at] : 0;
        }

        void setKinds(int at, long ofLocals, long ofStack) {
            if (at >= 0 && at < MOST_BYTES) {
                localKinds[at] = ofLocals;
                stackKinds[at] = ofStack;
            }
        }

        int kindAt(int at, int slot) {
            return slot < MOST_LOCALS ? kindIn(localKindsAt(at), slot) : kindIn(stackKindsAt(at), slot - MOST_LOCALS);
        }

        static int kindIn(long kinds, int i) {
            return (int) (kinds >>> 8 * i) & 255;
        }

        static boolean isReference(int kind) {
            return kind == ARRAY || kind >= ANY;
        }
    }

    /** Reads a FILE's bytes into what they tell, and finds FAULT 1. */
    private static final class Reader {
        private Program file;
        private int at;
        private int wrongAt;

        Reader(Program program) {
            file = program;
        }

        int firstWrong(Program program) {
            file = program;
            at = 0;
            wrongAt = NONE;
            readClasses();
            readSelectors();
            readMethods();
            readTable();
            if (wrongAt == NONE && at < file.length) {
                wrongAt = at;
            }
            return wrongAt;
        }

        /** The next byte; behind the first wrong one always low, so that reading comes to its end without harm. */
        private int take(int low, int high) {
            if (wrongAt != NONE) {
                return low;
            }
            if (at >= file.length) {
                wrongAt = file.length;
                return low;
            }
            int value = file.bytes.get(at);
            if (value < low || value > high) {
                wrongAt = at;
                return low;
            }
            at++;
            return value;
        }

        private int takeType(int low) {
            int value = take(low, REF + file.classCount - 1);
            if (value > ARRAY && value < REF) {
                wrongAt = at - 1;
            }
            return value;
        }

        private void readClasses() {
            file.classCount = take(0, MOST_CLASSES);
            for (int c = 0; c < file.classCount; c++) {
                int parent = take(0, c) - 1;
                int inherited = parent == NONE ? 0 : file.fieldCount.get(parent);
                file.superOf.set(c, parent);
                file.above.set(c, 1 << c | (parent == NONE ? 0 : file.above.get(parent)));
                for (int f = 0; f < inherited; f++) {
                    file.fieldType.set(c * MOST_FIELDS + f, file.typeOfField(parent, f));
                }
                int fields = inherited + take(0, Math.min(4, MOST_FIELDS - inherited));
                for (int f = inherited; f < fields; f++) {
                    file.fieldType.set(c * MOST_FIELDS + f, takeType(INT));
                }
                file.fieldCount.set(c, fields);
            }
        }

        private void readSelectors() {
            file.selectorCount = take(0, MOST_SELECTORS);
            for (int s = 0; s < file.selectorCount; s++) {
                readShape(file.selectorAt(s), 3);
            }
        }

        private void readShape(Shape shape, int mostParams) {
            shape.params = take(0, mostParams);
            for (int i = 0; i < shape.params; i++) {
                shape.types.set(i, takeType(INT));
            }
            shape.returns = takeType(NOTHING);
        }

        private void readMethods() {
            file.methodCount = take(1, MOST_METHODS);
            for (int m = 0; m < file.methodCount; m++) {
                Shape shape = file.methodAt(m);
                readShape(shape, MOST_PARAMS);
                shape.locals = take(shape.params, MOST_LOCALS);
                shape.stackMost = take(0, MOST_STACK);
                shape.codeLength = take(1, MOST_CODE);
                shape.codeAt = at;
                if (wrongAt == NONE && at + shape.codeLength > file.length) {
                    wrongAt = file.length;
                }
                at += shape.codeLength;
            }
        }

        private void readTable() {
            for (int c = 0; c < file.classCount; c++) {
                for (int s = 0; s < file.selectorCount; s++) {
                    int m = take(0, file.methodCount) - 1;
                    if (m != NONE && !suits(c, file.selectorAt(s), file.methodAt(m))) {
                        wrongAt = at - 1;
                    }
                    int parent = file.superOf.get(c);
                    if (m == NONE && parent != NONE) {
                        m = file.table.get(parent * MOST_SELECTORS + s);
                    }
                    file.table.set(c * MOST_SELECTORS + s, m);
                }
            }
        }

        private boolean suits(int c, Shape selector, Shape method) {
            if (method.params != selector.params + 1 || method.returns != selector.returns) {
                return false;
            }
            int first = method.types.get(0);
            if (first < REF || !file.isOrBelow(c, first - REF)) {
                return false;
            }
            for (int i = 0; i < selector.params; i++) {
                if (method.types.get(i + 1) != selector.types.get(i)) {
                    return false;
                }
            }
            return true;
        }
    }

    /** Finds where INSTRUCTIONS begin, and FAULT 2. */
    private static final class Decoder {
        int faultMethod;
        int faultPlace;
        private Program file;

        Decoder(Program program) {
            file = program;
        }

        boolean findsFault(Program program) {
            file = program;
            file.siteCount = 0;
            for (int m = 0; m < file.methodCount; m++) {
                Shape shape = file.methodAt(m);
                markBegins(shape);
                for (int p = 0; p < shape.codeLength; p++) {
                    if (file.size.get(shape.codeAt + p) != 0 && isFaulty(shape, shape.codeAt + p)) {
                        faultMethod = m;
                        faultPlace = p;
                        return true;
                    }
                }
            }
            return false;
        }

        /** One that is none gets a size below 0: it begins there, but nothing does behind it. */
        private void markBegins(Shape shape) {
            int end = shape.codeAt + shape.codeLength;
            file.size.fill(shape.codeAt, end, 0);
            int size = 1;
            for (int at = shape.codeAt; at < end; at += Math.max(1, size)) {
                int op = file.bytes.get(at);
                size = sizeAt(at, end);
                if (size == NONE || at + size > end) {
                    file.size.set(at, NONE);
                    return;
                }
                file.size.set(at, size);
                file.siteAt.set(at, NONE);
                if (op == CALL || op == SEND) {
                    file.siteAt.set(at, file.siteCount);
                    file.siteCount++;
                }
            }
        }

        private int sizeAt(int at, int end) {
            int op = file.bytes.get(at);
            if (op > CHOOSE) {
                return NONE;
            }
            if (op < CHOOSE) {
                return numberIn(SIZES, op);
            }
            return at + 1 < end ? file.bytes.get(at + 1) + 3 : NONE;
        }

        private boolean isFaulty(Shape shape, int at) {
            int size = file.size.get(at);
            if (size == NONE) {
                return true;
            }
            int op = file.bytes.get(at);
            boolean goesOn = op != JUMP && op != RETURN && op != RETURN_VALUE && op != CHOOSE;
            if (goesOn && at + size == shape.codeAt + shape.codeLength) {
                return true;
            }
            return !namesWhatThereIs(shape, at, op);
        }

        private boolean namesWhatThereIs(Shape shape, int at, int op) {
            if (op == CHOOSE) {
                return choosesWell(shape, at);
            }
            if (numberIn(SIZES, op) == 1) {
                return true;
            }
            int named = file.bytes.get(at + 1);
            if (op >= JUMP && op <= IF_NOT_SAME) {
                return begins(shape, named);
            }
            switch (op) {
                case GET: case SET: case ADD_LOCAL:
                    return named < shape.locals;
                case NEW: case IS_OF: case CAST:
                    return named < file.classCount;
                case GET_FIELD: case SET_FIELD:
                    return named < file.classCount && file.bytes.get(at + 2) < file.fieldCount.get(named);
                case CALL:
                    return named < file.methodCount;
                case SEND:
                    return named < file.selectorCount;
                default:
                    return true;
            }
        }

        private boolean choosesWell(Shape shape, int at) {
            int n = file.bytes.get(at + 1);
            if (n < 1 || n > 8) {
                return false;
            }
            for (int i = 0; i <= n; i++) {
                if (!begins(shape, file.bytes.get(at + 2 + i))) {
                    return false;
                }
            }
            return true;
        }

        private boolean begins(Shape shape, int place) {
            return place < shape.codeLength && file.size.get(shape.codeAt + place) != 0;
        }
    }

    /** Finds the KINDS before each INSTRUCTION, and FAULT 3. */
    private static final class Verifier {
        private static final int NOT_COME_TO = -1;
        private static final int CLASHES = -2;

        int faultMethod;
        int faultPlace;
        /** 1 for an INSTRUCTION before which something changed and that has not been gone behind since. */
        private final Row waits;
        private Program file;
        private Shape shape;
        private boolean changed;
        /** What there is behind the INSTRUCTION that is looked at. */
        private int height;
        private long locals;
        private long stack;

        Verifier(Program program) {
            waits = new Row(MOST_BYTES);
            file = program;
            shape = program.methodAt(0);
        }

        boolean findsFault(Program program) {
            file = program;
            for (int m = 0; m < file.methodCount; m++) {
                shape = file.methodAt(m);
                flow();
                for (int p = 0; p < shape.codeLength; p++) {
                    if (file.size.get(shape.codeAt + p) != 0 && isWrong(shape.codeAt + p)) {
                        faultMethod = m;
                        faultPlace = p;
                        return true;
                    }
                }
            }
            return false;
        }

        private void flow() {
            int first = shape.codeAt;
            int end = first + shape.codeLength;
            file.height.fill(first, end, NOT_COME_TO);
            waits.fill(first, end, 0);
            locals = 0;
            for (int i = 0; i < shape.params; i++) {
                locals |= (long) shape.types.get(i) << 8 * i;
            }
            stack = 0;
            height = 0;
            comeTo(first);
            for (int round = 0; changed && round < FAR_ABOVE; round++) {
                changed = false;
                for (int at = first; at < end; at++) {
                    if (waits.get(at) != 0) {
                        waits.set(at, 0);
                        goBehind(at);
                    }
                }
            }
        }

        /** Brings what is behind the INSTRUCTION to all that may come next. */
        private void goBehind(int at) {
            int op = file.bytes.get(at);
            findBehind(at, op);
            if (op == RETURN || op == RETURN_VALUE) {
                return;
            }
            if (op == CHOOSE) {
                int n = file.bytes.get(at + 1);
                for (int i = 0; i <= n; i++) {
                    comeTo(shape.codeAt + file.bytes.get(at + 2 + i));
                }
                return;
            }
            if (op >= JUMP && op <= IF_NOT_SAME) {
                comeTo(shape.codeAt + file.bytes.get(at + 1));
            }
            if (op != JUMP) {
                comeTo(at + file.size.get(at));
            }
        }

        private void findBehind(int at, int op) {
            int before = file.height.get(at);
            int takes = takesAt(at, op);
            int puts = putsAt(at, op);
            locals = file.localKindsAt(at);
            stack = file.stackKindsAt(at);
            if (before < takes || before - takes + puts > shape.stackMost) {
                height = CLASHES;
                return;
            }
            height = before;
            int top = before > 0 ? Program.kindIn(stack, before - 1) : NO;
            int below = before > 1 ? Program.kindIn(stack, before - 2) : NO;
            for (int i = 0; i < takes; i++) {
                dropKind();
            }
            if (op == GET) {
                addKind(Program.kindIn(locals, file.bytes.get(at + 1)));
            } else if (op == SET) {
                int shift = 8 * file.bytes.get(at + 1);
                locals = locals & ~(255L << shift) | (long) top << shift;
            } else if (op == TWICE) {
                addKind(top);
                addKind(top);
            } else if (op == SWAP) {
                addKind(top);
                addKind(below);
            } else if (puts == 1) {
                addKind(kindPut(at, op));
            }
        }

        /** Slots above the height stay NO, so that equal STACKS are equal numbers. */
        private void dropKind() {
            height--;
            stack &= ~(255L << 8 * height);
        }

        private void addKind(int kind) {
            stack |= (long) kind << 8 * height;
            height++;
        }

        private int takesAt(int at, int op) {
            if (op == CALL) {
                return file.methodAt(file.bytes.get(at + 1)).params;
            }
            if (op == SEND) {
                return file.selectorAt(file.bytes.get(at + 1)).params + 1;
            }
            return numberIn(TAKES, op);
        }

        private int putsAt(int at, int op) {
            if (op == CALL || op == SEND) {
                return returnedAt(at, op) == NOTHING ? 0 : 1;
            }
            return numberIn(PUTS, op);
        }

        private int returnedAt(int at, int op) {
            int named = file.bytes.get(at + 1);
            return op == CALL ? file.methodAt(named).returns : file.selectorAt(named).returns;
        }

        private int kindPut(int at, int op) {
            switch (op) {
                case PUSH_NULL: return NULL;
                case NEW: case CAST: return REF + file.bytes.get(at + 1);
                case GET_FIELD: return file.typeOfField(file.bytes.get(at + 1), file.bytes.get(at + 2));
                case NEW_ARRAY: return ARRAY;
                case CALL: case SEND: return returnedAt(at, op);
                default: return INT;
            }
        }

        private void comeTo(int at) {
            int there = file.height.get(at);
            if (there == NOT_COME_TO) {
                becomes(at, height, locals, stack);
            } else if (there != CLASHES && there != height) {
                becomes(at, CLASHES, 0, 0);
            } else if (there != CLASHES) {
                long bothLocals = joined(file.localKindsAt(at), locals);
                long bothStack = joined(file.stackKindsAt(at), stack);
                if (bothLocals != file.localKindsAt(at) || bothStack != file.stackKindsAt(at)) {
                    becomes(at, there, bothLocals, bothStack);
                }
            }
        }

        private void becomes(int at, int newHeight, long newLocals, long newStack) {
            file.height.set(at, newHeight);
            file.setKinds(at, newLocals, newStack);
            waits.set(at, 1);
            changed = true;
        }

        private long joined(long a, long b) {
            if (a == b) {
                return a;
            }
            long both = 0;
            for (int i = 0; i < MOST_LOCALS; i++) {
                both |= (long) join(Program.kindIn(a, i), Program.kindIn(b, i)) << 8 * i;
            }
            return both;
        }

        private int join(int a, int b) {
            if (a == b || a == NULL && Program.isReference(b)) {
                return b;
            }
            if (b == NULL && Program.isReference(a)) {
                return a;
            }
            if (a < ANY || b < ANY) {
                return NO;
            }
            int common = a == ANY || b == ANY ? 0 : file.above.get(a - REF) & file.above.get(b - REF);
            // A SUPER is always ahead, so the lowest class that both share has the greatest number.
            for (int c = MOST_CLASSES - 1; c >= 0; c--) {
                if ((common >> c & 1) != 0) {
                    return REF + c;
                }
            }
            return ANY;
        }

        private boolean isWrong(int at) {
            int before = file.height.get(at);
            if (before == NOT_COME_TO) {
                return false;
            }
            int op = file.bytes.get(at);
            int takes = takesAt(at, op);
            if (before < takes || before - takes + putsAt(at, op) > shape.stackMost) {
                return true;
            }
            stack = file.stackKindsAt(at);
            locals = file.localKindsAt(at);
            height = before;
            return op <= IF_NOT_SAME || op >= OUT ? !isFitPlain(at, op) : !isFitObject(at, op);
        }

        /** The KIND of what is so far from the top (0) of the STACK, NO if there is none such. */
        private int fromTop(int i) {
            return height > i ? Program.kindIn(stack, height - 1 - i) : NO;
        }

        private boolean isFitPlain(int at, int op) {
            int top = fromTop(0);
            int below = fromTop(1);
            switch (op) {
                case BYTE: case WORD: case PUSH_NULL: case JUMP: case IN:
                    return true;
                case GET:
                    return Program.kindIn(locals, file.bytes.get(at + 1)) != NO;
                case SET: case DROP: case TWICE:
                    return top != NO;
                case SWAP:
                    return top != NO && below != NO;
                case ADD_LOCAL:
                    return Program.kindIn(locals, file.bytes.get(at + 1)) == INT;
                case IF_NULL: case IF_NOT_NULL:
                    return top != INT && top != NO;
                case IF_SAME: case IF_NOT_SAME:
                    return areAlike(top, below);
                default:
                    return top == INT && (numberIn(TAKES, op) == 1 || below == INT);
            }
        }

        private static boolean areAlike(int a, int b) {
            if (a == INT || b == INT || a == NO || b == NO) {
                return false;
            }
            return !(a == ARRAY && b >= ANY || b == ARRAY && a >= ANY);
        }

        private boolean isFitObject(int at, int op) {
            int top = fromTop(0);
            int below = fromTop(1);
            int named = file.bytes.get(at + 1);
            switch (op) {
                case GET_FIELD:
                    return isFit(top, REF + named);
                case SET_FIELD:
                    return isFit(below, REF + named)
                        && isFit(top, file.typeOfField(named, file.bytes.get(at + 2)));
                case NEW_ARRAY:
                    return top == INT;
                case GET_INT:
                    return isFit(below, ARRAY) && top == INT;
                case SET_INT:
                    return isFit(fromTop(2), ARRAY) && below == INT && top == INT;
                case LENGTH:
                    return isFit(top, ARRAY);
                case IS_OF: case CAST:
                    return top == NULL || top >= ANY;
                case CALL:
                    return areParamsFit(file.methodAt(named));
                case SEND:
                    return areParamsFit(file.selectorAt(named)) && hasMethod(named);
                case RETURN:
                    return shape.returns == NOTHING;
                case RETURN_VALUE:
                    return shape.returns != NOTHING && isFit(top, shape.returns);
                default:
                    return true;
            }
        }

        private boolean areParamsFit(Shape called) {
            for (int i = 0; i < called.params; i++) {
                if (!isFit(fromTop(called.params - 1 - i), called.types.get(i))) {
                    return false;
                }
            }
            return true;
        }

        private boolean hasMethod(int selector) {
            int kind = fromTop(file.selectorAt(selector).params);
            return kind >= REF && file.table.get((kind - REF) * MOST_SELECTORS + selector) != NONE;
        }

        private boolean isFit(int kind, int type) {
            if (kind == type || kind == NULL && type != INT) {
                return true;
            }
            return kind >= REF && type >= REF && file.isOrBelow(kind - REF, type - REF);
        }
    }

    /** The FRAMES of a RUN; LOCALS are slots 0 .. 7 of a FRAME, its STACK has those behind. */
    private static final class Frames {
        static final int SLOTS = MOST_LOCALS + MOST_STACK;

        int depth;
        final Row methodOf;
        final Row place;
        final Row tier;
        /** The PLAN of a COMPILED or INLINED FRAME, by its number. */
        final Row plan;
        /** Of an INLINED FRAME which of its PLAN's rows it is INLINED for, else NONE. */
        final Row row;
        final Row height;
        final Row slots;

        Frames() {
            methodOf = new Row(MOST_FRAMES);
            place = new Row(MOST_FRAMES);
            tier = new Row(MOST_FRAMES);
            plan = new Row(MOST_FRAMES);
            row = new Row(MOST_FRAMES);
            height = new Row(MOST_FRAMES);
            slots = new Row(MOST_FRAMES * SLOTS);
        }

        int fromLatest(int k) {
            return k < 0 || k >= depth ? NONE : depth - 1 - k;
        }

        void open(int m, int newTier, int newPlan, int newRow) {
            int f = depth;
            methodOf.set(f, m);
            place.set(f, 0);
            tier.set(f, newTier);
            plan.set(f, newPlan);
            row.set(f, newRow);
            height.set(f, 0);
            depth++;
        }

        void becomePlain(int f) {
            tier.set(f, PLAIN);
            plan.set(f, NONE);
            row.set(f, NONE);
        }

        void setArguments(int a, int b, int c, int d) {
            slots.set(0, a);
            slots.set(1, b);
            slots.set(2, c);
            slots.set(3, d);
        }

        /** Takes so many from the STACK of the FRAME that called into the latest one's first LOCALS. */
        void handOver(int params) {
            int caller = depth - 2;
            height.add(caller, -params);
            int from = caller * SLOTS + MOST_LOCALS + height.get(caller);
            int to = (depth - 1) * SLOTS;
            for (int i = 0; i < params; i++) {
                slots.set(to + i, slots.get(from + i));
            }
        }

        /** What is so far from the top (0) of the latest FRAME's STACK. */
        int peek(int i) {
            int f = depth - 1;
            return slots.get(f * SLOTS + MOST_LOCALS + height.get(f) - 1 - i);
        }

        int pop() {
            int value = peek(0);
            height.add(depth - 1, -1);
            return value;
        }

        void push(int value) {
            int f = depth - 1;
            slots.set(f * SLOTS + MOST_LOCALS + height.get(f), value);
            height.add(f, 1);
        }

        void goOn(int bytes) {
            place.add(depth - 1, bytes);
        }

        /** The byte of the FILE before which this FRAME's KINDS are: of one that called its call's. */
        int kindsAt(Program file, int f) {
            int behindCall = f == depth - 1 ? 0 : CALL_BYTES;
            return file.methodAt(methodOf.get(f)).codeAt + place.get(f) - behindCall;
        }

        int kindOf(Program file, int f, int slot) {
            return file.kindAt(kindsAt(file, f), slot);
        }
    }

    /**
     * THE HEAP. A reference is where its CELLS begin (0: null): the NUMBER, the tag (its class; 16 + how many INTS
     * of an ARRAY), then its parts. What is REACHED is brought over to the other half when it is COLLECTED.
     */
    private static final class Heap {
        /** KINDS that are INT or NO have no bits but these: most FRAMES have nothing to bring. */
        private static final long INTS_ALONE = 0x0101010101010101L;

        int cellsMost;
        int used;
        int latest;
        private Row cells;
        private Row other;

        Heap() {
            cells = new Row(MOST_CELLS + 1);
            other = new Row(MOST_CELLS + 1);
        }

        void clear(int newRoom) {
            cellsMost = newRoom;
            used = 0;
            latest = 0;
        }

        boolean hasRoom(long more) {
            return used + more <= cellsMost;
        }

        int numberOf(int ref) {
            return cells.get(ref);
        }

        int tagOf(int ref) {
            return cells.get(ref + 1);
        }

        int partsOf(Program file, int tag) {
            return tag >= REF ? tag - REF : file.fieldCount.get(tag);
        }

        int partOf(int ref, int i) {
            return cells.get(ref + 2 + i);
        }

        void setPart(int ref, int i, int value) {
            cells.set(ref + 2 + i, value);
        }

        /** Only behind hasRoom. */
        int make(int tag, int parts) {
            int ref = used + 1;
            latest++;
            cells.set(ref, latest);
            cells.set(ref + 1, tag);
            cells.fill(ref + 2, ref + 2 + parts, 0);
            used += 2 + parts;
            return ref;
        }

        void collect(Program file, Frames frames) {
            Row old = cells;
            cells = other;
            other = old;
            used = 0;
            for (int f = 0; f < frames.depth; f++) {
                int at = frames.kindsAt(file, f);
                int first = f * Frames.SLOTS;
                int locals = file.methodAt(frames.methodOf.get(f)).locals;
                bringSlots(file, frames.slots, file.localKindsAt(at), first, locals);
                bringSlots(file, frames.slots, file.stackKindsAt(at), first + MOST_LOCALS, frames.height.get(f));
            }
            int ref = 1;
            while (ref <= used && ref < MOST_CELLS) {
                int tag = cells.get(ref + 1);
                if (tag < REF) {
                    bringFields(file, ref, tag);
                }
                ref += 2 + partsOf(file, tag);
            }
        }

        private void bringSlots(Program file, Row slots, long kinds, int first, int count) {
            if ((kinds & ~INTS_ALONE) == 0) {
                return;
            }
            for (int i = 0; i < count; i++) {
                if (Program.isReference(Program.kindIn(kinds, i))) {
                    slots.set(first + i, broughtOver(file, slots.get(first + i)));
                }
            }
        }

        private void bringFields(Program file, int ref, int tag) {
            for (int i = 0; i < file.fieldCount.get(tag); i++) {
                if (file.typeOfField(tag, i) != INT) {
                    cells.set(ref + 2 + i, broughtOver(file, cells.get(ref + 2 + i)));
                }
            }
        }

        /** Where it is now; in its old place the NUMBER gives way to that, below 0. */
        private int broughtOver(Program file, int ref) {
            if (ref == 0) {
                return 0;
            }
            if (other.get(ref) < 0) {
                return -other.get(ref);
            }
            int to = used + 1;
            int all = 2 + partsOf(file, other.get(ref + 1));
            for (int i = 0; i < all; i++) {
                cells.set(to + i, other.get(ref + i));
            }
            other.set(ref, -to);
            used += all;
            return to;
        }
    }

    /** What is INLINED in a METHOD that is COMPILED: a row for each SITE, each ahead of those within it. */
    private static final class Plan {
        static final int DEEP = 0;
        static final int METHOD = 1;
        static final int PLACE = 2;
        static final int GUARD = 3;
        static final int CALLEE = 4;
        /** The row behind all that are within this one. */
        static final int BEHIND = 5;
        static final int WIDTH = 6;

        final int count;
        final int allBytes;
        final Row rows;

        Plan(Row fromRows, int rowCount, int codeBytes) {
            count = rowCount;
            allBytes = codeBytes;
            rows = new Row(rowCount * WIDTH);
            for (int i = 0; i < rowCount * WIDTH; i++) {
                rows.set(i, fromRows.get(i));
            }
        }

        /** The row of a SITE directly within a row (NONE: the METHOD itself), or NONE. */
        int find(int within, int place) {
            int end = within == NONE ? count : rows.get(within * WIDTH + BEHIND);
            int k = within + 1;
            while (k < end) {
                if (rows.get(k * WIDTH + PLACE) == place) {
                    return k;
                }
                k = Math.max(k + 1, rows.get(k * WIDTH + BEHIND));
            }
            return NONE;
        }

        int guardOf(int k) {
            return rows.get(k * WIDTH + GUARD);
        }
    }

    /** COUNTS, PROFILES and PLANS. */
    private static final class Tiers {
        int hot;
        int samples;
        int mostDeep;
        int mostSize;
        final Row counts;
        final Row profiles;
        /** The PLANS of all RUNS; a METHOD or a FRAME has one by its number. */
        final Plan[] plans;
        int planCount;
        private final Row planOf;
        /** The PLAN that is being made. */
        private final Row rows;
        private int rowCount;
        private int inlinedBytes;
        private Program file;

        Tiers(Program program) {
            file = program;
            hot = 3;
            samples = 2;
            mostDeep = 2;
            mostSize = 40;
            counts = new Row(MOST_METHODS);
            profiles = new Row(MOST_BYTES / 2 * MOST_CLASSES);
            plans = new Plan[MOST_PLANS];
            planOf = new Row(MOST_METHODS);
            rows = new Row(MOST_INLINED_BYTES * Plan.WIDTH);
        }

        void clear() {
            counts.fill(0, MOST_METHODS, 0);
            planOf.fill(0, MOST_METHODS, NONE);
        }

        void clearFor(Program program) {
            file = program;
            profiles.fill(0, file.siteCount * MOST_CLASSES, 0);
        }

        int planNumber(int m) {
            return planOf.get(m);
        }

        Plan planOfMethod(int m) {
            return planNumbered(planOf.get(m));
        }

        Plan planNumbered(int number) {
            return number < 0 || number >= planCount ? null : plans[number];
        }

        /** Counts an INVOCATION: the PLAN if the METHOD was COMPILED by it, else null. */
        Plan invoke(int m) {
            counts.add(m, 1);
            if (counts.get(m) < hot || planOf.get(m) != NONE || planCount >= MOST_PLANS) {
                return null;
            }
            rowCount = 0;
            inlinedBytes = 0;
            goThrough(m, 0);
            Plan plan = new Plan(rows, rowCount, inlinedBytes + file.methodAt(m).codeLength);
            plans[planCount] = plan;
            planOf.set(m, planCount);
            planCount++;
            return plan;
        }

        /** A METHOD that has another PLAN by now keeps it. */
        void giveUp(int m, int plan) {
            if (planOf.get(m) == plan) {
                planOf.set(m, NONE);
                counts.set(m, 0);
            }
        }

        private void goThrough(int m, int deep) {
            if (deep >= mostDeep) {
                return;
            }
            Shape shape = file.methodAt(m);
            for (int p = 0; p < shape.codeLength; p += Math.max(1, file.size.get(shape.codeAt + p))) {
                int at = shape.codeAt + p;
                int guard = guardOf(at);
                int callee = calleeOf(at, guard);
                if (callee != NONE && fits(callee)) {
                    int row = addRow(deep, m, p, guard, callee);
                    goThrough(callee, deep + 1);
                    rows.set(row + Plan.BEHIND, rowCount);
                }
            }
        }

        /** The only class that a 48 has seen, often enough; else NONE. */
        private int guardOf(int at) {
            if (file.bytes.get(at) != SEND) {
                return NONE;
            }
            int first = file.siteAt.get(at) * MOST_CLASSES;
            int only = NONE;
            for (int c = 0; c < file.classCount; c++) {
                if (profiles.get(first + c) > 0) {
                    if (only != NONE) {
                        return NONE;
                    }
                    only = c;
                }
            }
            return only != NONE && profiles.get(first + only) >= samples ? only : NONE;
        }

        /** The METHOD that is called at a SITE which was counted often enough, else NONE. */
        private int calleeOf(int at, int guard) {
            int op = file.bytes.get(at);
            if (op == CALL && profiles.get(file.siteAt.get(at) * MOST_CLASSES) >= samples) {
                return file.bytes.get(at + 1);
            }
            if (op == SEND && guard != NONE) {
                return file.table.get(guard * MOST_SELECTORS + file.bytes.get(at + 1));
            }
            return NONE;
        }

        private boolean fits(int callee) {
            int more = file.methodAt(callee).codeLength;
            return more <= mostSize && inlinedBytes + more <= MOST_INLINED_BYTES;
        }

        private int addRow(int deep, int m, int place, int guard, int callee) {
            int row = rowCount * Plan.WIDTH;
            rows.set(row + Plan.DEEP, deep);
            rows.set(row + Plan.METHOD, m);
            rows.set(row + Plan.PLACE, place);
            rows.set(row + Plan.GUARD, guard);
            rows.set(row + Plan.CALLEE, callee);
            rowCount++;
            inlinedBytes += file.methodAt(callee).codeLength;
            return row;
        }
    }

    /** A RUN, and what goes on from RUN to RUN. */
    private static final class Machine {
        final Frames frames;
        final Heap heap;
        final Tiers tiers;
        /** THE LOG. */
        final Row entries;
        int entryCount;
        final Row outputs;
        int outputCount;
        int phase;
        int trap;
        int returned;
        int steps;
        int stepsInAll;
        int inputCount;
        private final Row inputs;
        private int firstInput;
        private Program file;
        /** The byte of the FILE with which the INSTRUCTION begins that is done now. */
        private int at;

        Machine(Program program) {
            file = program;
            frames = new Frames();
            heap = new Heap();
            tiers = new Tiers(program);
            entries = new Row(MOST_ENTRIES * ENTRY_WIDTH);
            outputs = new Row(MOST_OUTPUTS);
            inputs = new Row(MOST_INPUTS);
            tiers.clear();
        }

        boolean takeInput(int value) {
            if (inputCount >= MOST_INPUTS) {
                return false;
            }
            inputs.set((firstInput + inputCount) % MOST_INPUTS, value);
            inputCount++;
            return true;
        }

        /** No RUN any more. */
        void forget() {
            phase = NO_RUN;
            trap = 0;
            returned = 0;
            steps = 0;
            outputCount = 0;
            frames.depth = 0;
            entryCount = 0;
            heap.clear(0);
            tiers.clear();
        }

        void begin(Program program, int room) {
            file = program;
            phase = UNDER_WAY;
            heap.clear(room);
            tiers.clearFor(file);
            openInvoked(0);
        }

        int seen(int value, boolean isInt) {
            return isInt || value == 0 ? value : heap.numberOf(value);
        }

        private void addEntry(int which, int m, int third, int fourth) {
            if (entryCount >= MOST_ENTRIES) {
                return;
            }
            int row = entryCount * ENTRY_WIDTH;
            entries.set(row, which);
            entries.set(row + 1, steps);
            entries.set(row + 2, m);
            entries.set(row + 3, third);
            entries.set(row + 4, fourth);
            entryCount++;
        }

        void stop(int byTrap) {
            trap = byTrap;
            phase = TRAPPED;
        }

        /** Does the INSTRUCTION at the latest FRAME's PLACE, or changes nothing: its TRAP, 0 without. */
        int step() {
            int f = frames.depth - 1;
            at = file.methodAt(frames.methodOf.get(f)).codeAt + frames.place.get(f);
            int op = file.bytes.get(at);
            if (op >= ADD && op <= NEGATE) {
                return calculate(op);
            }
            if (op <= ADD_LOCAL) {
                return move(op);
            }
            if (op <= IF_NOT_SAME || op == CHOOSE) {
                return jump(op);
            }
            if (op == NEW || op == NEW_ARRAY) {
                return make(op);
            }
            if (op <= SET_FIELD) {
                return useField(op);
            }
            if (op <= LENGTH) {
                return useArray(op);
            }
            if (op <= CAST) {
                return testClass(op);
            }
            if (op <= SEND) {
                return call(op);
            }
            return op <= RETURN_VALUE ? giveBack(op) : passInt(op);
        }

        private int move(int op) {
            switch (op) {
                case BYTE:
                    frames.push((byte) file.bytes.get(at + 1));
                    break;
                case WORD:
                    frames.push((short) (file.bytes.get(at + 1) << 8 | file.bytes.get(at + 2)));
                    break;
                case PUSH_NULL:
                    frames.push(0);
                    break;
                case GET:
                    frames.push(frames.slots.get(localNamed()));
                    break;
                case SET:
                    frames.slots.set(localNamed(), frames.pop());
                    break;
                case DROP:
                    frames.pop();
                    break;
                case TWICE:
                    frames.push(frames.peek(0));
                    break;
                case SWAP:
                    swap();
                    break;
                default:
                    frames.slots.add(localNamed(), (byte) file.bytes.get(at + 2));
                    break;
            }
            frames.goOn(file.size.get(at));
            return 0;
        }

        private int localNamed() {
            return (frames.depth - 1) * Frames.SLOTS + file.bytes.get(at + 1);
        }

        private void swap() {
            int top = frames.pop();
            int below = frames.pop();
            frames.push(top);
            frames.push(below);
        }

        private int calculate(int op) {
            int y = frames.peek(0);
            if (y == 0 && (op == DIVIDE || op == REST)) {
                return TRAP_DIVISION;
            }
            frames.pop();
            frames.push(op == NEGATE ? -y : calculated(op, frames.pop(), y));
            frames.goOn(file.size.get(at));
            return 0;
        }

        private static int calculated(int op, int x, int y) {
            switch (op) {
                case ADD: return x + y;
                case SUBTRACT: return x - y;
                case MULTIPLY: return x * y;
                case DIVIDE: return y == 0 ? 0 : x / y;
                case REST: return y == 0 ? 0 : x % y;
                case AND: return x & y;
                case OR: return x | y;
                case EXCLUSIVE_OR: return x ^ y;
                case SHIFT_LEFT: return x << y;
                case SHIFT_RIGHT: return x >> y;
                default: return x >>> y;
            }
        }

        private int jump(int op) {
            int f = frames.depth - 1;
            int own = frames.place.get(f);
            int target = op == CHOOSE ? chosen() : file.bytes.get(at + 1);
            if (op != CHOOSE && !isTaken(op)) {
                frames.goOn(file.size.get(at));
                return 0;
            }
            if (frames.tier.get(f) == PLAIN && target <= own) {
                tiers.counts.add(frames.methodOf.get(f), 1);
            }
            frames.place.set(f, target);
            return 0;
        }

        private int chosen() {
            int n = file.bytes.get(at + 1);
            int x = frames.pop();
            return file.bytes.get(at + 2 + (x >= 0 && x < n ? x : n));
        }

        private boolean isTaken(int op) {
            if (op == JUMP) {
                return true;
            }
            int y = frames.pop();
            if (op < IF_EQUAL) {
                return compares(op - IF_ZERO, y, 0);
            }
            if (op == IF_NULL || op == IF_NOT_NULL) {
                return (y == 0) == (op == IF_NULL);
            }
            int x = frames.pop();
            if (op < IF_NULL) {
                return compares(op - IF_EQUAL, x, y);
            }
            return (x == y) == (op == IF_SAME);
        }

        private static boolean compares(int how, int x, int y) {
            switch (how) {
                case 0: return x == y;
                case 1: return x != y;
                case 2: return x < y;
                case 3: return x >= y;
                case 4: return x > y;
                default: return x <= y;
            }
        }

        private int make(int op) {
            int tag = op == NEW ? file.bytes.get(at + 1) : REF;
            int parts = op == NEW ? file.fieldCount.get(tag) : frames.peek(0);
            if (parts < 0) {
                return TRAP_LENGTH;
            }
            long more = 2L + parts;
            if (!heap.hasRoom(more)) {
                int before = heap.used;
                heap.collect(file, frames);
                addEntry(ENTRY_COLLECTED, frames.methodOf.get(frames.depth - 1), before, heap.used);
            }
            if (!heap.hasRoom(more)) {
                return TRAP_ROOM;
            }
            if (op == NEW_ARRAY) {
                frames.pop();
                tag += parts;
            }
            frames.push(heap.make(tag, parts));
            frames.goOn(file.size.get(at));
            return 0;
        }

        private int useField(int op) {
            int field = file.bytes.get(at + 2);
            int ref = frames.peek(op == SET_FIELD ? 1 : 0);
            if (ref == 0) {
                return TRAP_NULL;
            }
            if (op == SET_FIELD) {
                heap.setPart(ref, field, frames.pop());
                frames.pop();
            } else {
                frames.pop();
                frames.push(heap.partOf(ref, field));
            }
            frames.goOn(file.size.get(at));
            return 0;
        }

        private int useArray(int op) {
            int ref = frames.peek(op == SET_INT ? 2 : op == GET_INT ? 1 : 0);
            if (ref == 0) {
                return TRAP_NULL;
            }
            int ints = heap.partsOf(file, heap.tagOf(ref));
            if (op == LENGTH) {
                frames.pop();
                frames.push(ints);
                frames.goOn(file.size.get(at));
                return 0;
            }
            int i = frames.peek(op == SET_INT ? 1 : 0);
            if (i < 0 || i >= ints) {
                return TRAP_INDEX;
            }
            int y = frames.pop();
            frames.pop();
            if (op == SET_INT) {
                heap.setPart(ref, i, y);
                frames.pop();
            } else {
                frames.push(heap.partOf(ref, i));
            }
            frames.goOn(file.size.get(at));
            return 0;
        }

        private int testClass(int op) {
            int ref = frames.peek(0);
            boolean isOfClass = ref != 0 && file.isOrBelow(heap.tagOf(ref), file.bytes.get(at + 1));
            if (op == CAST && ref != 0 && !isOfClass) {
                return TRAP_CLASS;
            }
            if (op == IS_OF) {
                frames.pop();
                frames.push(isOfClass ? 1 : 0);
            }
            frames.goOn(file.size.get(at));
            return 0;
        }

        private int call(int op) {
            int named = file.bytes.get(at + 1);
            int callee = named;
            int seenClass = 0;
            if (op == SEND) {
                int ref = frames.peek(file.selectorAt(named).params);
                if (ref == 0) {
                    return TRAP_NULL;
                }
                seenClass = heap.tagOf(ref);
                callee = file.table.get(seenClass * MOST_SELECTORS + named);
            }
            if (frames.depth >= MOST_FRAMES) {
                return TRAP_FRAMES;
            }
            int f = frames.depth - 1;
            int row = rowOfCall(f, op, seenClass);
            if (frames.tier.get(f) == PLAIN) {
                tiers.profiles.add(file.siteAt.get(at) * MOST_CLASSES + seenClass, 1);
            }
            frames.goOn(file.size.get(at));
            if (row == NONE) {
                openInvoked(callee);
            } else {
                frames.open(callee, INLINED, frames.plan.get(f), row);
            }
            frames.handOver(file.methodAt(callee).params);
            return 0;
        }

        /** The row of the FRAME's PLAN by which this call is INLINED, or NONE; a GUARD that FAILS has its effect. */
        private int rowOfCall(int f, int op, int seenClass) {
            Plan plan = tiers.planNumbered(frames.plan.get(f));
            if (frames.tier.get(f) == PLAIN || plan == null) {
                return NONE;
            }
            int row = plan.find(frames.row.get(f), frames.place.get(f));
            if (row != NONE && op == SEND && plan.guardOf(row) != seenClass) {
                failGuard(f);
                return NONE;
            }
            return row;
        }

        private void failGuard(int latest) {
            int outer = latest;
            while (outer > 0 && frames.tier.get(outer) == INLINED) {
                outer--;
            }
            int m = frames.methodOf.get(outer);
            addEntry(ENTRY_GUARD, m, frames.methodOf.get(latest), frames.place.get(latest));
            tiers.giveUp(m, frames.plan.get(outer));
            for (int f = outer; f <= latest; f++) {
                frames.becomePlain(f);
            }
        }

        private void openInvoked(int m) {
            Plan made = tiers.invoke(m);
            if (made != null) {
                addEntry(ENTRY_COMPILED, m, made.count, made.allBytes);
            }
            int plan = tiers.planNumber(m);
            frames.open(m, plan == NONE ? PLAIN : COMPILED, plan, NONE);
        }

        private int giveBack(int op) {
            int value = op == RETURN_VALUE ? frames.pop() : 0;
            frames.depth--;
            if (frames.depth > 0) {
                if (op == RETURN_VALUE) {
                    frames.push(value);
                }
                return 0;
            }
            phase = ENDED;
            returned = file.methodAt(0).returns == INT ? value : 0;
            return 0;
        }

        private int passInt(int op) {
            if (op == OUT) {
                int value = frames.pop();
                if (outputCount < MOST_OUTPUTS) {
                    outputs.set(outputCount, value);
                }
                outputCount++;
            } else {
                frames.push(nextInput());
            }
            frames.goOn(file.size.get(at));
            return 0;
        }

        private int nextInput() {
            if (inputCount == 0) {
                return 0;
            }
            int value = inputs.get(firstInput);
            firstInput = (firstInput + 1) % MOST_INPUTS;
            inputCount--;
            return value;
        }
    }
}
