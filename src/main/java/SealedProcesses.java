/**
 * A small system whose processes share one machine and are kept apart by types alone.
 *
 * Bytes are fed on a tape; a module is decoded and verified from them, a manifest boots processes
 * from modules, and the processes are run by turns. No call throws: every index, divisor and
 * reference is looked at before it is used.
 */
public final class SealedProcesses {

    public static final int NONE = -1;

    private static final int NOTHING_DONE = -2;
    private static final int TAPE_LENGTH = 2000;
    private static final int SHELF_PLACES = 6;

    /** The first bytes of types, and the two that stand in no module but come to places of code. */
    private static final int INT = 0;
    private static final int NODE = 1;
    private static final int ROW = 2;
    private static final int ROWS = 3;
    private static final int BLOCK = 4;
    private static final int END = 5;
    private static final int NIL = 6;
    private static final int EMPTY = 7;

    /** The bits of a type that tell its kind. */
    private static final int KIND = 15;

    /** Stands where a result or a load might be, and there is none. */
    private static final int NO_TYPE = -1;
    private static final int NO_TYPE_BYTE = 255;

    private static final int MAX_RECORDS = 8;
    private static final int MAX_FIELDS = 6;
    private static final int MAX_CONTRACTS = 4;
    private static final int MAX_STATES = 8;
    private static final int MAX_MESSAGES = 4;
    private static final int MAX_FUNCTIONS = 10;
    private static final int MAX_PARAMETERS = 4;
    private static final int MAX_LOCALS = 10;
    private static final int MAX_CODE = 240;
    private static final int MAX_STACK = 16;
    /** A stack and the locals of one activation stand in one row, the locals behind. */
    private static final int FRAME = MAX_STACK + MAX_LOCALS;

    private static final int MAX_PROCESSES = 12;
    private static final int MAX_CHANNELS = 12;
    private static final int MAX_ENDS = 2 * MAX_CHANNELS;
    private static final int MAX_WAITING = 4;
    private static final int BLOCK_CELLS = 256;
    private static final int MAX_BLOCKS = BLOCK_CELLS / 2;
    private static final int MAX_ACTIVATIONS = 16;
    private static final int MAX_OUTS = 500;
    private static final int TURN_STEPS = 8;
    private static final int MAX_RUN = 10000;
    private static final int MAX_BOOTED = 6;
    private static final int END_NUMBERS = 8;
    private static final int MAX_HEAP_UNITS = 64;
    private static final int CELLS_OF_A_UNIT = 16;
    private static final int MAX_HEAP = MAX_HEAP_UNITS * CELLS_OF_A_UNIT;

    /** Owners from here on are ends that something waits for. */
    private static final int WAITS_FOR = 100;

    private static final int GOES_ON = 1;
    private static final int WAITS_TO_RECEIVE = 2;
    private static final int WAITS_TO_SEND = 3;
    private static final int OVER = 4;
    private static final int OVER_BY_TRAP = 5;

    private static final int TRAP_NIL = 1;
    private static final int TRAP_INDEX = 2;
    private static final int TRAP_ZERO = 3;
    private static final int TRAP_LENGTH = 4;
    private static final int TRAP_HEAP = 5;
    private static final int TRAP_BLOCK = 6;
    private static final int TRAP_CHANNEL = 7;
    private static final int TRAP_PROCESS = 8;
    private static final int TRAP_ACTIVATION = 9;
    private static final int TRAP_OUT = 10;

    private static final int OP_PUSH = 0;
    private static final int OP_NIL = 1;
    private static final int OP_LOAD = 2;
    private static final int OP_STORE = 3;
    private static final int OP_POP = 4;
    private static final int OP_DUP = 5;
    private static final int OP_SWAP = 6;
    private static final int OP_ADD = 7;
    private static final int OP_SUB = 8;
    private static final int OP_MUL = 9;
    private static final int OP_DIV = 10;
    private static final int OP_REM = 11;
    private static final int OP_AND = 12;
    private static final int OP_OR = 13;
    private static final int OP_XOR = 14;
    private static final int OP_SHL = 15;
    private static final int OP_SHR = 16;
    private static final int OP_LESS = 17;
    private static final int OP_SAME = 18;
    private static final int OP_NONE = 19;
    private static final int OP_JUMP = 20;
    private static final int OP_ZERO = 21;
    private static final int OP_NEW = 22;
    private static final int OP_GET = 23;
    private static final int OP_PUT = 24;
    private static final int OP_ROW = 25;
    private static final int OP_ROWS = 26;
    private static final int OP_LENGTH = 27;
    private static final int OP_TAKE = 28;
    private static final int OP_LAY = 29;
    private static final int OP_CALL = 30;
    private static final int OP_RETURN = 31;
    private static final int OP_BLOCK = 32;
    private static final int OP_SEE = 33;
    private static final int OP_SET = 34;
    private static final int OP_FREE = 35;
    private static final int OP_CHANNEL = 36;
    private static final int OP_SEND = 37;
    private static final int OP_RECEIVE = 38;
    private static final int OP_CLOSE = 39;
    private static final int OP_SPAWN = 40;
    private static final int OP_YIELD = 41;
    private static final int OP_EXIT = 42;
    private static final int OP_OUT = 43;

    /** What stands behind an instruction's first byte. */
    private static final int WITH_NOTHING = 0;
    private static final int WITH_NUMBER = 1;
    private static final int WITH_LOCAL = 2;
    private static final int WITH_TARGET = 3;
    private static final int WITH_RECORD = 4;
    private static final int WITH_FIELD = 5;
    private static final int WITH_FUNCTION = 6;
    private static final int WITH_BLOCK_RECORD = 7;
    private static final int WITH_CONTRACT = 8;
    private static final int WITH_MESSAGE = 9;
    private static final int WITH_TARGETS = 10;

    private static final int[] OPERANDS = {
        WITH_NUMBER, WITH_NOTHING, WITH_LOCAL, WITH_LOCAL, WITH_NOTHING, WITH_NOTHING, WITH_NOTHING,
        WITH_NOTHING, WITH_NOTHING, WITH_NOTHING, WITH_NOTHING, WITH_NOTHING, WITH_NOTHING,
        WITH_NOTHING, WITH_NOTHING, WITH_NOTHING, WITH_NOTHING, WITH_NOTHING, WITH_NOTHING,
        WITH_NOTHING, WITH_TARGET, WITH_TARGET,
        WITH_RECORD, WITH_FIELD, WITH_FIELD, WITH_NOTHING, WITH_RECORD, WITH_NOTHING, WITH_NOTHING,
        WITH_NOTHING, WITH_FUNCTION, WITH_NOTHING,
        WITH_BLOCK_RECORD, WITH_FIELD, WITH_FIELD, WITH_NOTHING, WITH_CONTRACT, WITH_MESSAGE,
        WITH_TARGETS, WITH_NOTHING, WITH_FUNCTION, WITH_NOTHING, WITH_NOTHING, WITH_NOTHING
    };

    private final int[] tape = new int[TAPE_LENGTH];
    private int taped = 0;
    private final TypedModule[] shelf = new TypedModule[SHELF_PLACES];
    private int latestFault = NONE;
    private int latestPlace = NONE;
    private final Decoder decoder = new Decoder();
    private final Verifier verifier = new Verifier();
    private final Manifest manifest = new Manifest();
    private final Machine machine = new Machine();

    public SealedProcesses() {
    }

    public int feed(int a, int b, int c, int d, int e) {
        if (taped + 20 > TAPE_LENGTH) {
            return NONE;
        }
        tapeNumber(a);
        tapeNumber(b);
        tapeNumber(c);
        tapeNumber(d);
        tapeNumber(e);
        return taped;
    }

    public int load(int n) {
        if (n < 0 || n > taped) {
            return NOTHING_DONE;
        }
        TypedModule made = new TypedModule(tape, n);
        taped = 0;
        tell(decoder.decode(made));
        if (latestFault == 0) {
            tell(verifier.verify(made));
        }
        if (latestFault != 0) {
            return NONE;
        }
        for (int place = 0; place < SHELF_PLACES; place++) {
            if (shelf[place] == null) {
                shelf[place] = made;
                return place;
            }
        }
        return NONE;
    }

    public int fault(int what) {
        if (what == 0) {
            return latestFault;
        }
        return what == 1 ? latestPlace : NONE;
    }

    public boolean discard(int m) {
        if (onShelf(m) == null) {
            return false;
        }
        shelf[m] = null;
        return true;
    }

    public int module(int m, int f, int what) {
        TypedModule found = onShelf(m);
        if (found == null) {
            return NONE;
        }
        switch (what) {
            case 0:
                return found.records;
            case 1:
                return found.contracts;
            case 2:
                return found.functions;
            case 3:
                return found.length;
            default:
                return ofRoutine(found.routineAt(f), what);
        }
    }

    public int typeAt(int m, int f, int place, int what, int i) {
        TypedModule found = onShelf(m);
        Routine routine = found == null ? null : found.routineAt(f);
        if (routine == null || routine.heightAt(place) < 0 || i < 0) {
            return NONE;
        }
        if (what == 0 && i < routine.heightAt(place)) {
            return kindOf(routine.typeComing(place, i));
        }
        if (what == 1 && i < routine.locals) {
            return kindOf(routine.typeComing(place, MAX_STACK + i));
        }
        return NONE;
    }

    public int boot(int n) {
        if (n < 0 || n > taped) {
            return NOTHING_DONE;
        }
        taped = 0;
        tell(manifest.read(tape, n, shelf));
        if (latestFault != 0) {
            return NONE;
        }
        machine.start(manifest);
        return manifest.count;
    }

    public int run(int n) {
        if (n < 0 || n > MAX_RUN || !machine.booted) {
            return NONE;
        }
        return machine.goOn(n);
    }

    public int about(int what) {
        if (!machine.booted) {
            return NONE;
        }
        switch (what) {
            case 0:
                return machine.steps;
            case 1:
                return machine.isStill() ? 1 : 0;
            case 2:
                return machine.living();
            case 3:
                return machine.ends.channels();
            case 4:
                return machine.blocks.count;
            case 5:
                return machine.blocks.cells;
            case 6:
                return machine.outs;
            default:
                return NONE;
        }
    }

    public int process(int p, int what) {
        Task task = machine.taskAt(p);
        if (task == null) {
            return NONE;
        }
        switch (what) {
            case 0:
                return task.status;
            case 1:
                return task.trap;
            case 2:
                return task.shelfPlace;
            case 3:
            case 4:
            case 5:
            case 6:
            case 7:
                return task.isOver() ? 0 : ofLivingTask(task, what);
            case 8:
                return task.heap;
            case 9:
                return task.steps;
            default:
                return NONE;
        }
    }

    public int value(int p, int what, int i) {
        Task task = machine.taskAt(p);
        if (task == null || task.isOver() || i < 0) {
            return Integer.MIN_VALUE;
        }
        if (what == 0 && i < task.height()) {
            return task.shown(i);
        }
        if (what == 1 && i < task.localCount()) {
            return task.shown(MAX_STACK + i);
        }
        return Integer.MIN_VALUE;
    }

    public int block(int b, int what) {
        int size = machine.blocks.sizeOf(b);
        if (size == 0) {
            return NONE;
        }
        if (what == 0) {
            return size;
        }
        if (what == 1) {
            return machine.blocks.ownerOf(b);
        }
        return what >= 10 && what - 10 < size ? machine.blocks.see(b, what - 10) : NONE;
    }

    public int channel(int c, int side, int what) {
        if (c < 0 || c >= MAX_CHANNELS || side < 0 || side > 1) {
            return NONE;
        }
        int end = 2 * c + side;
        if (!machine.ends.isOpen(end)) {
            return NONE;
        }
        switch (what) {
            case 0:
                return machine.ends.stateOf(end);
            case 1:
                return machine.ends.ownerOf(end);
            case 2:
                return machine.ends.waitingFor(end);
            default:
                return NONE;
        }
    }

    public int output(int i, int what) {
        if (!machine.booted || i < 0 || i >= machine.outs) {
            return NONE;
        }
        if (what == 0) {
            return machine.outTask[i];
        }
        return what == 1 ? machine.outNumber[i] : NONE;
    }

    private void tapeNumber(int number) {
        for (int shift = 24; shift >= 0; shift -= 8) {
            if (taped < TAPE_LENGTH) {
                tape[taped] = number >> shift & 255;
                taped++;
            }
        }
    }

    private void tell(Bytes told) {
        latestFault = told.fault;
        latestPlace = told.place;
    }

    private TypedModule onShelf(int m) {
        return m < 0 || m >= SHELF_PLACES ? null : shelf[m];
    }

    private int ofLivingTask(Task task, int what) {
        switch (what) {
            case 3:
                return task.function();
            case 4:
                return task.place();
            case 5:
                return task.activations;
            case 6:
                return task.height();
            default:
                return machine.reachedBy(task);
        }
    }

    private static int ofRoutine(Routine routine, int what) {
        if (routine == null) {
            return NONE;
        }
        switch (what) {
            case 10:
                return routine.parameters;
            case 11:
                return routine.locals;
            case 12:
                return routine.length;
            case 13:
                return routine.start;
            case 14:
                return routine.highest;
            default:
                return NONE;
        }
    }

    /** A type is one number, so that two types are the same when their numbers are. */
    private static int typeOf(int kind, int named) {
        return kind | named << 4;
    }

    private static int endType(int contract, int state, int side) {
        return END | contract << 4 | state << 12 | side << 20;
    }

    private static int kindOf(int type) {
        return type & KIND;
    }

    private static int namedBy(int type) {
        return type >> 4 & 255;
    }

    private static int stateOfEnd(int type) {
        return type >> 12 & 255;
    }

    private static int sideOfEnd(int type) {
        return type >> 20 & 1;
    }

    private static boolean isLinear(int type) {
        int kind = type & KIND;
        return kind == BLOCK || kind == END;
    }

    private static boolean isPointer(int type) {
        int kind = type & KIND;
        return kind >= NODE && kind <= ROWS;
    }

    private static boolean isPointerOrNil(int type) {
        return isPointer(type) || kindOf(type) == NIL;
    }

    /** Whether what has the one type may come to a place of the other. */
    private static boolean fits(int type, int wanted) {
        return type == wanted || type == NIL && isPointer(wanted);
    }

    /** The turn in which the side sends. */
    private static int turnOfSide(int side) {
        return side + 1;
    }

    /** Bytes that are read from the left, with the first fault that was met. */
    private static final class Bytes {
        private int[] bytes = new int[0];
        private int length = 0;
        /** Where what is being read has to end: the end of all, or of a function's code. */
        private int limit = 0;
        private int at = 0;
        private int fault = 0;
        private int place = NONE;

        private void startOver(int[] from, int count) {
            bytes = from;
            length = Math.max(0, Math.min(count, from.length));
            limit = length;
            at = 0;
            fault = 0;
            place = NONE;
        }

        private boolean isRight() {
            return fault == 0;
        }

        private void fail(int number, int where) {
            if (fault == 0) {
                fault = number;
                place = where;
            }
        }

        private int peek() {
            return at < Math.min(limit, length) ? bytes[at] : NONE;
        }

        private int take() {
            if (fault != 0) {
                return 0;
            }
            int next = peek();
            if (next == NONE) {
                fail(1, at);
                return 0;
            }
            at++;
            return next;
        }

        private int takeWithin(int lowest, int highest) {
            int where = at;
            int number = take();
            if (number < lowest || number > highest) {
                fail(1, where);
                return lowest;
            }
            return number;
        }

        private int takeWord() {
            int word = 0;
            for (int i = 0; i < 4; i++) {
                word = word << 8 | take();
            }
            return word;
        }

        private void expectEnd() {
            if (at < length) {
                fail(1, at);
            }
        }
    }

    /** A contract: states with turns and messages. */
    private static final class Contract {
        private final int states;
        private final int[] turns = new int[MAX_STATES];
        private final int[] counts = new int[MAX_STATES];
        private final int[] loads = new int[MAX_STATES * MAX_MESSAGES];
        private final int[] nexts = new int[MAX_STATES * MAX_MESSAGES];

        private Contract(int states) {
            this.states = states;
        }

        private int turnAt(int state) {
            return state < 0 || state >= MAX_STATES ? 0 : turns[state];
        }

        private int countAt(int state) {
            return state < 0 || state >= MAX_STATES ? 0 : counts[state];
        }

        /** Where a message stands in the rows, or NONE when the state has no such message. */
        private int indexOf(int state, int message) {
            if (state < 0 || state >= MAX_STATES || message < 0 || message >= MAX_MESSAGES) {
                return NONE;
            }
            return message < counts[state] ? state * MAX_MESSAGES + message : NONE;
        }

        private boolean has(int state, int message) {
            return indexOf(state, message) >= 0;
        }

        private int loadOf(int state, int message) {
            int i = indexOf(state, message);
            return i < 0 || i >= loads.length ? NO_TYPE : loads[i];
        }

        private int nextOf(int state, int message) {
            int i = indexOf(state, message);
            return i < 0 || i >= nexts.length ? 0 : nexts[i];
        }

        private void setState(int state, int turn, int count) {
            if (state >= 0 && state < MAX_STATES) {
                turns[state] = turn;
                counts[state] = count;
            }
        }

        private void setMessage(int state, int message, int load, int next) {
            int i = indexOf(state, message);
            if (i >= 0 && i < loads.length) {
                loads[i] = load;
                nexts[i] = next;
            }
        }

        /** Whether an end in that state may send that message, and it has no load. */
        private boolean sendsBare(int state, int side, int message) {
            if (state < 0 || state >= MAX_STATES || message < 0 || message >= MAX_MESSAGES) {
                return false;
            }
            return turns[state] == side + 1 && message < counts[state]
                && loads[state * MAX_MESSAGES + message] == NO_TYPE;
        }
    }

    /** A function: its head, and what comes to each place of its code. */
    private static final class Routine {
        private final int parameters;
        private final int[] types;
        private final int result;
        private final int locals;
        private final int length;
        private final int start;
        private int highest = 0;
        private final boolean[] begins;
        private int[] heights = null;
        private int[] coming = null;

        private Routine(int[] types, int result, int locals, int length, int start) {
            this.types = types;
            this.parameters = types.length;
            this.result = result;
            this.locals = locals;
            this.length = length;
            this.start = start;
            this.begins = new boolean[Math.max(0, length)];
        }

        private int typeOfParameter(int i) {
            return i < 0 || i >= types.length ? NO_TYPE : types[i];
        }

        private boolean beginsAt(int place) {
            return place >= 0 && place < begins.length && begins[place];
        }

        private void setBegin(int place) {
            if (place >= 0 && place < begins.length) {
                begins[place] = true;
            }
        }

        /** Rows for what comes are dear, so only a function that is decoded gets them. */
        private void prepare() {
            heights = new int[begins.length];
            coming = new int[begins.length * FRAME];
            for (int i = 0; i < heights.length; i++) {
                heights[i] = NONE;
            }
        }

        private int heightAt(int place) {
            return heights == null || place < 0 || place >= heights.length ? NONE : heights[place];
        }

        private void setHeight(int place, int height) {
            if (heights != null && place >= 0 && place < heights.length) {
                heights[place] = height;
                highest = Math.max(highest, height);
            }
        }

        private int typeComing(int place, int slot) {
            int i = place * FRAME + slot;
            return coming == null || i < 0 || i >= coming.length ? EMPTY : coming[i];
        }

        private void setComing(int place, int slot, int type) {
            int i = place * FRAME + slot;
            if (coming != null && i >= 0 && i < coming.length) {
                coming[i] = type;
            }
        }
    }

    /** A module, decoded. */
    private static final class TypedModule {
        private final int[] bytes;
        private final int length;
        private int records = 0;
        private final int[] sizes = new int[MAX_RECORDS];
        private final int[] fields = new int[MAX_RECORDS * MAX_FIELDS];
        /** For each record a bit for each field that a collection has to follow. */
        private final int[] pointers = new int[MAX_RECORDS];
        private int contracts = 0;
        private final Contract[] contractRow = new Contract[MAX_CONTRACTS];
        private int functions = 0;
        private final Routine[] routines = new Routine[MAX_FUNCTIONS];

        private TypedModule(int[] from, int count) {
            length = Math.max(0, Math.min(count, from.length));
            bytes = new int[length];
            for (int i = 0; i < length; i++) {
                bytes[i] = from[i];
            }
        }

        private int byteAt(int i) {
            return i < 0 || i >= length ? 0 : bytes[i];
        }

        private int wordAt(int i) {
            return byteAt(i) << 24 | byteAt(i + 1) << 16 | byteAt(i + 2) << 8 | byteAt(i + 3);
        }

        private int lengthOfInstruction(int i) {
            int op = byteAt(i);
            int with = op < OPERANDS.length ? OPERANDS[op] : WITH_NOTHING;
            switch (with) {
                case WITH_NOTHING:
                    return 1;
                case WITH_NUMBER:
                    return 5;
                case WITH_TARGETS:
                    return 2 + byteAt(i + 1);
                default:
                    return 2;
            }
        }

        private Contract contractAt(int c) {
            return c < 0 || c >= contracts || c >= MAX_CONTRACTS ? null : contractRow[c];
        }

        private Routine routineAt(int f) {
            return f < 0 || f >= functions || f >= MAX_FUNCTIONS ? null : routines[f];
        }

        private void setContract(int c, Contract contract) {
            if (c >= 0 && c < MAX_CONTRACTS) {
                contractRow[c] = contract;
            }
        }

        private void setRoutine(int f, Routine routine) {
            if (f >= 0 && f < MAX_FUNCTIONS) {
                routines[f] = routine;
            }
        }

        private int sizeOfRecord(int r) {
            return r < 0 || r >= MAX_RECORDS ? 0 : sizes[r];
        }

        private int typeOfField(int r, int f) {
            return f < 0 || f >= sizeOfRecord(r) ? NO_TYPE : fields[r * MAX_FIELDS + f];
        }

        private int pointersOf(int r) {
            return r < 0 || r >= MAX_RECORDS ? 0 : pointers[r];
        }

        private void setSize(int r, int size) {
            if (r >= 0 && r < MAX_RECORDS) {
                sizes[r] = size;
            }
        }

        private void setField(int r, int f, int type) {
            if (r >= 0 && r < MAX_RECORDS && f >= 0 && f < MAX_FIELDS) {
                fields[r * MAX_FIELDS + f] = type;
                pointers[r] |= isPointer(type) ? 1 << f : 0;
            }
        }

        private boolean hasIntsAlone(int r) {
            for (int f = 0; f < sizeOfRecord(r); f++) {
                if (typeOfField(r, f) != INT) {
                    return false;
                }
            }
            return true;
        }
    }

    /**
     * Decodes a module. Its bytes are walked twice: for their shape, and then for the names in
     * them, since a name may tell of what stands further on.
     */
    private static final class Decoder {
        /** A bit for each kind of type that may stand there. */
        private static final int OF_FIELDS = 15;
        private static final int OF_PARAMETERS = 63;
        /** Loads and results may be none: that has a bit of its own. */
        private static final int OR_NONE = 64;
        private static final int OF_LOADS = 49 | OR_NONE;
        private static final int OF_RESULTS = OF_PARAMETERS | OR_NONE;
        private static final int NO_BOUND = 256;

        private final Bytes bytes = new Bytes();
        private boolean naming = false;

        private Bytes decode(TypedModule made) {
            bytes.startOver(made.bytes, made.length);
            for (int pass = 0; pass < 2 && bytes.isRight(); pass++) {
                bytes.startOver(made.bytes, made.length);
                naming = pass == 1;
                bytes.takeWithin(83, 83);
                bytes.takeWithin(77, 77);
                made.records = bytes.takeWithin(0, MAX_RECORDS);
                for (int r = 0; r < made.records && bytes.isRight(); r++) {
                    walkRecord(made, r);
                }
                made.contracts = bytes.takeWithin(0, MAX_CONTRACTS);
                for (int c = 0; c < made.contracts && bytes.isRight(); c++) {
                    walkContract(made, c);
                }
                made.functions = bytes.takeWithin(1, MAX_FUNCTIONS);
                for (int f = 0; f < made.functions && bytes.isRight(); f++) {
                    walkFunction(made, f);
                }
                bytes.expectEnd();
            }
            return bytes;
        }

        private void walkRecord(TypedModule made, int r) {
            int size = bytes.takeWithin(1, MAX_FIELDS);
            made.setSize(r, size);
            for (int f = 0; f < size && bytes.isRight(); f++) {
                made.setField(r, f, takeType(made, OF_FIELDS));
            }
        }

        private void walkContract(TypedModule made, int c) {
            int states = bytes.takeWithin(1, MAX_STATES);
            if (!naming) {
                made.setContract(c, new Contract(states));
            }
            Contract contract = made.contractAt(c);
            for (int s = 0; s < states && bytes.isRight() && contract != null; s++) {
                int turn = bytes.takeWithin(0, 2);
                int count = turn == 0 ? bytes.takeWithin(0, 0) : bytes.takeWithin(1, MAX_MESSAGES);
                contract.setState(s, turn, count);
                for (int t = 0; t < count && bytes.isRight(); t++) {
                    int load = takeType(made, OF_LOADS);
                    contract.setMessage(s, t, load, takeName(states));
                }
            }
        }

        private void walkFunction(TypedModule made, int f) {
            int parameters = bytes.takeWithin(0, MAX_PARAMETERS);
            int[] types = new int[parameters];
            for (int i = 0; i < parameters && bytes.isRight(); i++) {
                types[i] = takeType(made, OF_PARAMETERS);
            }
            int result = takeType(made, OF_RESULTS);
            int locals = bytes.takeWithin(parameters, MAX_LOCALS);
            int length = bytes.takeWithin(1, MAX_CODE);
            if (!naming) {
                made.setRoutine(f, new Routine(types, result, locals, length, bytes.at));
            }
            Routine routine = made.routineAt(f);
            if (routine == null) {
                return;
            }
            bytes.limit = routine.start + routine.length;
            for (int i = 0; i < length && bytes.isRight() && bytes.at < bytes.limit; i++) {
                walkInstruction(made, routine);
            }
            bytes.limit = bytes.length;
        }

        private void walkInstruction(TypedModule made, Routine routine) {
            routine.setBegin(bytes.at - routine.start);
            int op = bytes.takeWithin(0, OPERANDS.length - 1);
            switch (OPERANDS[op]) {
                case WITH_NUMBER:
                    bytes.takeWord();
                    break;
                case WITH_LOCAL:
                    bytes.takeWithin(0, routine.locals - 1);
                    break;
                case WITH_TARGET:
                    takeTarget(routine);
                    break;
                case WITH_RECORD:
                    takeName(made.records);
                    break;
                case WITH_FIELD:
                    bytes.takeWithin(0, MAX_FIELDS - 1);
                    break;
                case WITH_FUNCTION:
                    takeName(made.functions);
                    break;
                case WITH_BLOCK_RECORD:
                    takeBlockRecord(made);
                    break;
                case WITH_CONTRACT:
                    takeName(made.contracts);
                    break;
                case WITH_MESSAGE:
                    bytes.takeWithin(0, MAX_MESSAGES - 1);
                    break;
                case WITH_TARGETS:
                    int count = bytes.takeWithin(1, MAX_MESSAGES);
                    for (int i = 0; i < count; i++) {
                        takeTarget(routine);
                    }
                    break;
                default:
                    break;
            }
        }

        private int takeType(TypedModule made, int allowed) {
            int where = bytes.at;
            int kind = bytes.take();
            if (kind == NO_TYPE_BYTE && (allowed & OR_NONE) != 0) {
                return NO_TYPE;
            }
            if (kind > END || (allowed >> kind & 1) == 0) {
                bytes.fail(1, where);
                return INT;
            }
            switch (kind) {
                case NODE:
                case ROWS:
                    return typeOf(kind, takeName(made.records));
                case BLOCK:
                    return typeOf(kind, takeBlockRecord(made));
                case END:
                    int contract = takeName(made.contracts);
                    Contract named = made.contractAt(contract);
                    int state = takeName(named == null ? NO_BOUND : named.states);
                    return endType(contract, state, bytes.takeWithin(0, 1));
                default:
                    return kind;
            }
        }

        private int takeName(int count) {
            int where = bytes.at;
            int name = bytes.take();
            if (naming && name >= count) {
                bytes.fail(1, where);
            }
            return name;
        }

        private int takeBlockRecord(TypedModule made) {
            int where = bytes.at;
            int named = takeName(made.records);
            if (naming && !made.hasIntsAlone(named)) {
                bytes.fail(1, where);
            }
            return named;
        }

        private void takeTarget(Routine routine) {
            int where = bytes.at;
            int place = bytes.take();
            if (naming && !routine.beginsAt(place)) {
                bytes.fail(1, where);
            }
        }
    }

    /** Finds whether functions are right: what comes to each place, joined till nothing changes. */
    private static final class Verifier {
        /** Each place changes once for coming, and each of its slots twice at the most. */
        private static final int MAX_ROUNDS = MAX_CODE * (2 * FRAME + 1) + 1;
        private static final int CLASH = -2;

        private final Bytes told = new Bytes();
        private final int[] stack = new int[MAX_STACK];
        private final int[] locals = new int[MAX_LOCALS];
        private final boolean[] waiting = new boolean[MAX_CODE];
        private int height = 0;
        private boolean wrong = false;
        private boolean changed = false;
        private TypedModule target = null;
        private Routine routine = null;

        private Bytes verify(TypedModule made) {
            told.startOver(made.bytes, made.length);
            target = made;
            for (int f = 0; f < made.functions && told.isRight(); f++) {
                routine = made.routineAt(f);
                if (routine != null && !isRoutineRight()) {
                    told.fail(2, routine.start);
                }
            }
            target = null;
            routine = null;
            return told;
        }

        private boolean isRoutineRight() {
            routine.prepare();
            wrong = false;
            height = 0;
            for (int i = 0; i < MAX_CODE; i++) {
                waiting[i] = false;
            }
            for (int i = 0; i < MAX_LOCALS; i++) {
                locals[i] = i < routine.parameters ? routine.typeOfParameter(i) : EMPTY;
            }
            arriveAt(0);
            for (int round = 0; round < MAX_ROUNDS && changed && !wrong; round++) {
                changed = false;
                for (int place = 0; place < routine.length && !wrong; place++) {
                    if (place < MAX_CODE && waiting[place]) {
                        waiting[place] = false;
                        takeUp(place);
                        follow(place);
                    }
                }
            }
            return !wrong;
        }

        private void takeUp(int place) {
            height = Math.max(0, Math.min(routine.heightAt(place), MAX_STACK));
            for (int i = 0; i < height; i++) {
                stack[i] = routine.typeComing(place, i);
            }
            for (int i = 0; i < MAX_LOCALS; i++) {
                locals[i] = routine.typeComing(place, MAX_STACK + i);
            }
        }

        private void arriveAt(int place) {
            if (wrong || place >= routine.length || place >= MAX_CODE) {
                wrong = true;
                return;
            }
            boolean first = routine.heightAt(place) < 0;
            if (first) {
                routine.setHeight(place, height);
            }
            if (routine.heightAt(place) != height) {
                wrong = true;
                return;
            }
            boolean differs = first;
            for (int slot = 0; slot < FRAME; slot++) {
                if (slot < height || slot >= MAX_STACK) {
                    int now = slot < MAX_STACK ? stack[slot] : locals[slot - MAX_STACK];
                    int before = first ? now : routine.typeComing(place, slot);
                    int joined = join(before, now);
                    if (joined == CLASH) {
                        want(slot >= MAX_STACK && !isLinear(before) && !isLinear(now));
                        joined = EMPTY;
                    }
                    routine.setComing(place, slot, joined);
                    differs = differs || joined != before;
                }
            }
            if (differs) {
                waiting[place] = true;
                changed = true;
            }
        }

        /** What two that come together become; CLASH when they are neither alike nor NIL. */
        private static int join(int before, int now) {
            int kindBefore = before & KIND;
            int kindNow = now & KIND;
            if (before == now || now == NIL && kindBefore >= NODE && kindBefore <= ROWS) {
                return before;
            }
            return before == NIL && kindNow >= NODE && kindNow <= ROWS ? now : CLASH;
        }

        private void push(int type) {
            if (height >= MAX_STACK) {
                wrong = true;
                return;
            }
            stack[height] = type;
            height++;
        }

        private int pop() {
            if (height <= 0) {
                wrong = true;
                return EMPTY;
            }
            height--;
            return stack[height];
        }

        private void want(boolean met) {
            if (!met) {
                wrong = true;
            }
        }

        private void popInt() {
            want(pop() == INT);
        }

        private int operandOf(int place) {
            return target.byteAt(routine.start + place + 1);
        }

        private void follow(int place) {
            int op = target.byteAt(routine.start + place);
            boolean goesOn;
            if (op <= OP_SWAP) {
                goesOn = followMove(op, operandOf(place));
            } else if (op <= OP_ZERO) {
                goesOn = followInts(op, operandOf(place));
            } else if (op <= OP_LAY) {
                goesOn = followHeap(op, operandOf(place));
            } else if (op <= OP_RETURN || op >= OP_SPAWN) {
                goesOn = followFlow(op, operandOf(place));
            } else if (op <= OP_FREE) {
                goesOn = followBlock(op, operandOf(place));
            } else {
                goesOn = followEnd(op, place);
            }
            if (goesOn) {
                arriveAt(place + target.lengthOfInstruction(routine.start + place));
            }
        }

        private boolean followMove(int op, int operand) {
            switch (op) {
                case OP_PUSH:
                    push(INT);
                    break;
                case OP_NIL:
                    push(NIL);
                    break;
                case OP_LOAD:
                    followLoad(operand);
                    break;
                case OP_STORE:
                    if (operand < MAX_LOCALS) {
                        want(!isLinear(locals[operand]));
                        locals[operand] = pop();
                    }
                    break;
                case OP_POP:
                    want(!isLinear(pop()));
                    break;
                case OP_DUP:
                    int copied = pop();
                    want(!isLinear(copied));
                    push(copied);
                    push(copied);
                    break;
                default:
                    int upper = pop();
                    int lower = pop();
                    push(upper);
                    push(lower);
                    break;
            }
            return true;
        }

        private void followLoad(int local) {
            if (local >= MAX_LOCALS) {
                return;
            }
            int type = locals[local];
            want(type != EMPTY);
            push(type);
            if (isLinear(type)) {
                locals[local] = EMPTY;
            }
        }

        private boolean followInts(int op, int operand) {
            switch (op) {
                case OP_NONE:
                    want(isPointerOrNil(pop()));
                    push(INT);
                    return true;
                case OP_JUMP:
                    arriveAt(operand);
                    return false;
                case OP_ZERO:
                    popInt();
                    arriveAt(operand);
                    return true;
                default:
                    popInt();
                    popInt();
                    push(INT);
                    return true;
            }
        }

        private boolean followHeap(int op, int operand) {
            switch (op) {
                case OP_NEW:
                    push(typeOf(NODE, operand));
                    return true;
                case OP_ROW:
                    popInt();
                    push(ROW);
                    return true;
                case OP_ROWS:
                    popInt();
                    push(typeOf(ROWS, operand));
                    return true;
                case OP_GET:
                case OP_PUT:
                    return followNode(op, operand);
                default:
                    return followRow(op);
            }
        }

        /** Answers false behind NIL: that is a trap, and nothing goes on. */
        private boolean followNode(int op, int field) {
            int put = op == OP_PUT ? pop() : NO_TYPE;
            int node = pop();
            if (node == NIL) {
                return false;
            }
            int type = kindOf(node) == NODE ? target.typeOfField(namedBy(node), field) : NO_TYPE;
            want(type != NO_TYPE);
            if (op == OP_PUT) {
                want(fits(put, type));
            } else {
                push(type);
            }
            return true;
        }

        /** Answers false behind NIL, as with nodes. */
        private boolean followRow(int op) {
            int laid = op == OP_LAY ? pop() : NO_TYPE;
            if (op != OP_LENGTH) {
                popInt();
            }
            int row = pop();
            if (row == NIL) {
                return false;
            }
            want(kindOf(row) == ROW || kindOf(row) == ROWS);
            int item = row == ROW ? INT : typeOf(NODE, namedBy(row));
            if (op == OP_LAY) {
                want(fits(laid, item));
            } else {
                push(op == OP_LENGTH ? INT : item);
            }
            return true;
        }

        private boolean followFlow(int op, int operand) {
            switch (op) {
                case OP_CALL:
                    Routine called = target.routineAt(operand);
                    popParameters(called);
                    if (called != null && called.result != NO_TYPE) {
                        push(called.result);
                    }
                    return true;
                case OP_RETURN:
                    followReturn();
                    return false;
                case OP_SPAWN:
                    Routine spawned = target.routineAt(operand);
                    popParameters(spawned);
                    want(spawned != null && spawned.result == NO_TYPE && !takesPointers(spawned));
                    return true;
                case OP_EXIT:
                    return false;
                case OP_OUT:
                    popInt();
                    return true;
                default:
                    return true;
            }
        }

        private void popParameters(Routine called) {
            want(called != null);
            if (called != null) {
                for (int i = called.parameters - 1; i >= 0; i--) {
                    want(fits(pop(), called.typeOfParameter(i)));
                }
            }
        }

        private static boolean takesPointers(Routine called) {
            for (int i = 0; i < called.parameters; i++) {
                if (isPointer(called.typeOfParameter(i))) {
                    return true;
                }
            }
            return false;
        }

        private void followReturn() {
            if (routine.result != NO_TYPE) {
                want(fits(pop(), routine.result));
            }
            want(height == 0);
            for (int i = 0; i < MAX_LOCALS; i++) {
                want(!isLinear(locals[i]));
            }
        }

        private boolean followBlock(int op, int operand) {
            if (op == OP_BLOCK) {
                push(typeOf(BLOCK, operand));
                return true;
            }
            if (op == OP_SET) {
                popInt();
            }
            int type = pop();
            want(kindOf(type) == BLOCK);
            if (op != OP_FREE) {
                want(operand < target.sizeOfRecord(namedBy(type)));
                push(type);
            }
            if (op == OP_SEE) {
                push(INT);
            }
            return true;
        }

        private boolean followEnd(int op, int place) {
            switch (op) {
                case OP_CHANNEL:
                    push(endType(operandOf(place), 0, 0));
                    push(endType(operandOf(place), 0, 1));
                    return true;
                case OP_SEND:
                    followSend(operandOf(place));
                    return true;
                case OP_RECEIVE:
                    followReceive(place);
                    return false;
                default:
                    int closed = pop();
                    Contract contract = contractOf(closed);
                    want(contract != null && contract.turnAt(stateOfEnd(closed)) == 0);
                    return true;
            }
        }

        private Contract contractOf(int type) {
            return kindOf(type) == END ? target.contractAt(namedBy(type)) : null;
        }

        private void followSend(int message) {
            int end = pop();
            int load = NO_TYPE;
            Contract contract = contractOf(end);
            if (contract == null || !contract.sendsBare(stateOfEnd(end), sideOfEnd(end), message)) {
                load = end;
                end = pop();
                contract = contractOf(end);
            }
            int state = stateOfEnd(end);
            if (contract == null || contract.turnAt(state) != turnOfSide(sideOfEnd(end))
                || !contract.has(state, message) || contract.loadOf(state, message) != load) {
                wrong = true;
                return;
            }
            push(endType(namedBy(end), contract.nextOf(state, message), sideOfEnd(end)));
        }

        private void followReceive(int place) {
            int end = pop();
            Contract contract = contractOf(end);
            int state = stateOfEnd(end);
            int count = operandOf(place);
            if (contract == null || contract.turnAt(state) != turnOfSide(1 - sideOfEnd(end))
                || contract.countAt(state) != count) {
                wrong = true;
                return;
            }
            int below = height;
            for (int t = 0; t < count && !wrong; t++) {
                height = below;
                push(endType(namedBy(end), contract.nextOf(state, t), sideOfEnd(end)));
                if (contract.loadOf(state, t) != NO_TYPE) {
                    push(contract.loadOf(state, t));
                }
                arriveAt(operandOf(place + 1 + t));
            }
        }
    }

    /** A manifest: the processes that are to begin, with what they begin with. */
    private static final class Manifest {
        private static final int FAULT_MODULE = 3;
        private static final int FAULT_FUNCTION = 4;
        private static final int FAULT_END = 5;
        private static final int FAULT_ALONE = 6;

        private final Bytes bytes = new Bytes();
        private int count = 0;
        private final TypedModule[] modules = new TypedModule[MAX_BOOTED];
        private final int[] shelfPlaces = new int[MAX_BOOTED];
        private final int[] functions = new int[MAX_BOOTED];
        private final int[] units = new int[MAX_BOOTED];
        /** Numbers of INTs, and of ends their numbers in the manifest. */
        private final int[] given = new int[MAX_BOOTED * MAX_PARAMETERS];
        private final int[] uses = new int[END_NUMBERS];
        private final TypedModule[] userModules = new TypedModule[END_NUMBERS];
        private final int[] userTypes = new int[END_NUMBERS];
        /** Pairs of contracts that have to be alike, each once. */
        private final int[] pairs = new int[MAX_CONTRACTS * MAX_CONTRACTS];
        private int paired = 0;

        private Bytes read(int[] tape, int n, TypedModule[] shelf) {
            bytes.startOver(tape, n);
            for (int i = 0; i < END_NUMBERS; i++) {
                uses[i] = 0;
            }
            bytes.takeWithin(83, 83);
            bytes.takeWithin(70, 70);
            count = bytes.takeWithin(1, MAX_BOOTED);
            for (int p = 0; p < count && bytes.isRight(); p++) {
                readProcess(p, shelf);
            }
            bytes.expectEnd();
            for (int i = 0; i < END_NUMBERS; i++) {
                if (uses[i] == 1) {
                    bytes.fail(FAULT_ALONE, bytes.at);
                }
            }
            return bytes;
        }

        private void readProcess(int p, TypedModule[] shelf) {
            int place = bytes.take();
            TypedModule named = place < shelf.length ? shelf[place] : null;
            if (named == null) {
                bytes.fail(FAULT_MODULE, bytes.at - 1);
                return;
            }
            int function = bytes.take();
            Routine routine = named.routineAt(function);
            if (routine == null || !isBootable(routine)) {
                bytes.fail(FAULT_FUNCTION, bytes.at - 1);
                return;
            }
            modules[p] = named;
            shelfPlaces[p] = place;
            functions[p] = function;
            units[p] = bytes.takeWithin(1, MAX_HEAP_UNITS);
            for (int i = 0; i < routine.parameters && bytes.isRight(); i++) {
                int type = routine.typeOfParameter(i);
                given[p * MAX_PARAMETERS + i] = type == INT ? bytes.takeWord() : readEnd(named, type);
            }
        }

        private static boolean isBootable(Routine routine) {
            for (int i = 0; i < routine.parameters; i++) {
                int type = routine.typeOfParameter(i);
                if (type != INT && (kindOf(type) != END || stateOfEnd(type) != 0)) {
                    return false;
                }
            }
            return routine.result == NO_TYPE;
        }

        private int readEnd(TypedModule named, int type) {
            int where = bytes.at;
            int number = bytes.takeWithin(0, END_NUMBERS - 1);
            if (!bytes.isRight()) {
                return number;
            }
            uses[number]++;
            if (uses[number] == 1) {
                userModules[number] = named;
                userTypes[number] = type;
            } else if (uses[number] > 2 || sideOfEnd(type) == sideOfEnd(userTypes[number])
                || !areAlike(named, namedBy(type), userModules[number], namedBy(userTypes[number]))) {
                bytes.fail(FAULT_END, where);
            }
            return number;
        }

        /** Contracts may name one another in rings, so each pair is looked at once. */
        private boolean areAlike(TypedModule a, int c, TypedModule b, int d) {
            if (a == null || b == null) {
                return false;
            }
            paired = 0;
            addPair(c, d);
            for (int i = 0; i < paired && i < pairs.length; i++) {
                int first = pairs[i] / MAX_CONTRACTS;
                int second = pairs[i] % MAX_CONTRACTS;
                if (!isPairAlike(a, a.contractAt(first), b, b.contractAt(second))) {
                    return false;
                }
            }
            return true;
        }

        private void addPair(int c, int d) {
            int pair = c * MAX_CONTRACTS + d;
            for (int i = 0; i < paired && i < pairs.length; i++) {
                if (pairs[i] == pair) {
                    return;
                }
            }
            if (paired < pairs.length) {
                pairs[paired] = pair;
                paired++;
            }
        }

        private boolean isPairAlike(TypedModule a, Contract first, TypedModule b, Contract second) {
            if (first == null || second == null || first.states != second.states) {
                return false;
            }
            for (int s = 0; s < first.states; s++) {
                if (first.turnAt(s) != second.turnAt(s) || first.countAt(s) != second.countAt(s)) {
                    return false;
                }
                for (int t = 0; t < first.countAt(s); t++) {
                    if (first.nextOf(s, t) != second.nextOf(s, t)
                        || !isLoadAlike(a, first.loadOf(s, t), b, second.loadOf(s, t))) {
                        return false;
                    }
                }
            }
            return true;
        }

        private boolean isLoadAlike(TypedModule a, int first, TypedModule b, int second) {
            if (kindOf(first) != kindOf(second)) {
                return false;
            }
            if (kindOf(first) == BLOCK) {
                return a.sizeOfRecord(namedBy(first)) == b.sizeOfRecord(namedBy(second));
            }
            if (kindOf(first) == END) {
                addPair(namedBy(first), namedBy(second));
                return stateOfEnd(first) == stateOfEnd(second)
                    && sideOfEnd(first) == sideOfEnd(second);
            }
            return true;
        }
    }

    /** The blocks of all processes, each with one owner. */
    private static final class Blocks {
        private final int[] sizes = new int[MAX_BLOCKS];
        private final int[] owners = new int[MAX_BLOCKS];
        private final int[] fields = new int[MAX_BLOCKS * MAX_FIELDS];
        private int count = 0;
        private int cells = 0;

        private void clear() {
            for (int b = 0; b < MAX_BLOCKS; b++) {
                sizes[b] = 0;
            }
            count = 0;
            cells = 0;
        }

        /** The number of the new block, or NONE when there is no room. */
        private int make(int size, int owner) {
            if (size < 1 || size > MAX_FIELDS || cells + size + 1 > BLOCK_CELLS) {
                return NONE;
            }
            for (int b = 0; b < MAX_BLOCKS; b++) {
                if (sizes[b] == 0) {
                    sizes[b] = size;
                    owners[b] = owner;
                    for (int f = 0; f < MAX_FIELDS; f++) {
                        fields[b * MAX_FIELDS + f] = 0;
                    }
                    count++;
                    cells += size + 1;
                    return b;
                }
            }
            return NONE;
        }

        private int sizeOf(int b) {
            return b < 0 || b >= MAX_BLOCKS ? 0 : sizes[b];
        }

        private int ownerOf(int b) {
            return sizeOf(b) == 0 ? NONE : owners[b];
        }

        private void give(int b, int owner) {
            if (b >= 0 && b < MAX_BLOCKS) {
                owners[b] = owner;
            }
        }

        private int see(int b, int f) {
            return f < 0 || f >= sizeOf(b) ? 0 : fields[b * MAX_FIELDS + f];
        }

        private void set(int b, int f, int number) {
            if (f >= 0 && f < sizeOf(b)) {
                fields[b * MAX_FIELDS + f] = number;
            }
        }

        private void free(int b) {
            if (b >= 0 && b < MAX_BLOCKS && sizes[b] > 0) {
                cells -= sizes[b] + 1;
                count--;
                sizes[b] = 0;
            }
        }

        private void freeAllOf(int owner) {
            for (int b = 0; b < MAX_BLOCKS; b++) {
                if (sizes[b] > 0 && owners[b] == owner) {
                    free(b);
                }
            }
        }
    }

    /** The channels' ends; an end's number is twice its channel's, and the side. */
    private static final class Ends {
        private final Blocks blocks;
        private final boolean[] open = new boolean[MAX_ENDS];
        private final int[] states = new int[MAX_ENDS];
        private final int[] owners = new int[MAX_ENDS];
        private final Contract[] contracts = new Contract[MAX_CHANNELS];
        /** The messages that wait for each end, the oldest first. */
        private final int[] waiting = new int[MAX_ENDS];
        private final int[] messages = new int[MAX_ENDS * MAX_WAITING];
        private final int[] loadKinds = new int[MAX_ENDS * MAX_WAITING];
        private final int[] loads = new int[MAX_ENDS * MAX_WAITING];
        /** Ends that are closed, or were sent to though closed, and whose messages have to go. */
        private final int[] closing = new int[MAX_ENDS + 1];
        private int closingCount = 0;

        private Ends(Blocks blocks) {
            this.blocks = blocks;
        }

        private void clear() {
            for (int e = 0; e < MAX_ENDS; e++) {
                open[e] = false;
                waiting[e] = 0;
                contracts[e / 2] = null;
            }
        }

        private boolean isOpen(int e) {
            return e >= 0 && e < MAX_ENDS && open[e];
        }

        private int channels() {
            int count = 0;
            for (int c = 0; c < MAX_CHANNELS; c++) {
                if (open[2 * c] || open[2 * c + 1]) {
                    count++;
                }
            }
            return count;
        }

        /** The number of the new channel, or NONE when there are too many. */
        private int make(Contract contract, int owner) {
            for (int c = 0; c < MAX_CHANNELS; c++) {
                if (!open[2 * c] && !open[2 * c + 1]) {
                    contracts[c] = contract;
                    openEnd(2 * c, owner);
                    openEnd(2 * c + 1, owner);
                    return c;
                }
            }
            return NONE;
        }

        private void openEnd(int e, int owner) {
            open[e] = true;
            states[e] = 0;
            owners[e] = owner;
            waiting[e] = 0;
        }

        private int stateOf(int e) {
            return isOpen(e) ? states[e] : NONE;
        }

        private int ownerOf(int e) {
            return isOpen(e) ? owners[e] : NONE;
        }

        private void give(int e, int owner) {
            if (e >= 0 && e < MAX_ENDS) {
                owners[e] = owner;
            }
        }

        private int waitingFor(int e) {
            return isOpen(e) ? waiting[e] : 0;
        }

        private boolean sendsBare(int e, int message) {
            Contract contract = isOpen(e) ? contracts[e / 2] : null;
            return contract != null && contract.sendsBare(states[e], e % 2, message);
        }

        private boolean isFull(int e) {
            return waitingFor(e) >= MAX_WAITING;
        }

        private void moveOn(int e, int message) {
            Contract contract = isOpen(e) ? contracts[e / 2] : null;
            if (contract != null) {
                states[e] = contract.nextOf(states[e], message);
            }
        }

        /** To a closed end a message comes too, but goes again when the step is settled. */
        private void send(int e, int message, int kind, int load) {
            int other = e ^ 1;
            if (!isOpen(e) || waiting[other] >= MAX_WAITING) {
                return;
            }
            int i = other * MAX_WAITING + waiting[other];
            messages[i] = message;
            loadKinds[i] = kind;
            loads[i] = load;
            waiting[other]++;
            hand(kind, load, WAITS_FOR + other);
            if (!open[other]) {
                addClosing(other);
            }
        }

        private int nextMessage(int e) {
            return waitingFor(e) > 0 ? messages[e * MAX_WAITING] : NONE;
        }

        private int nextLoadKind(int e) {
            return waitingFor(e) > 0 ? loadKinds[e * MAX_WAITING] : NO_TYPE;
        }

        private int nextLoad(int e) {
            return waitingFor(e) > 0 ? loads[e * MAX_WAITING] : 0;
        }

        private void removeNext(int e) {
            if (waitingFor(e) > 0) {
                waiting[e]--;
                for (int i = e * MAX_WAITING; i < e * MAX_WAITING + waiting[e]; i++) {
                    messages[i] = messages[i + 1];
                    loadKinds[i] = loadKinds[i + 1];
                    loads[i] = loads[i + 1];
                }
            }
        }

        private void hand(int kind, int load, int owner) {
            if (kind == BLOCK) {
                blocks.give(load, owner);
            } else if (kind == END) {
                give(load, owner);
            }
        }

        private void close(int e) {
            if (isOpen(e)) {
                open[e] = false;
                addClosing(e);
            }
        }

        private void closeAllOf(int owner) {
            for (int e = 0; e < MAX_ENDS; e++) {
                if (open[e] && owners[e] == owner) {
                    close(e);
                }
            }
        }

        private void addClosing(int e) {
            if (closingCount < closing.length) {
                closing[closingCount] = e;
                closingCount++;
            }
        }

        /** What waited for a closed end may be an end, so more are closed on the way. */
        private void settle() {
            for (int i = 0; i < closingCount && i < closing.length; i++) {
                int e = closing[i];
                for (int m = 0; m < waiting[e] && m < MAX_WAITING; m++) {
                    int load = loads[e * MAX_WAITING + m];
                    if (loadKinds[e * MAX_WAITING + m] == BLOCK) {
                        blocks.free(load);
                    } else if (loadKinds[e * MAX_WAITING + m] == END) {
                        close(load);
                    }
                }
                waiting[e] = 0;
            }
            closingCount = 0;
        }
    }

    /** A process: its activations, and a heap of its own. */
    private static final class Task {
        /** A header tells a node's record, or that it is a row, and how many cells follow it. */
        private static final int LENGTH_BITS = 16;
        private static final int LENGTH_MASK = (1 << LENGTH_BITS) - 1;
        private static final int ROW_HEADER = MAX_RECORDS << LENGTH_BITS;
        private static final int ROWS_HEADER = (MAX_RECORDS + 1) << LENGTH_BITS;

        private final int number;
        private TypedModule code;
        private int shelfPlace = 0;
        private int heap = 0;
        private int status = OVER;
        private int trap = 0;
        private int steps = 0;
        private int activations = 0;
        /** The latest activation. */
        private int top = 0;
        private final int[] functions = new int[MAX_ACTIVATIONS];
        private final int[] places = new int[MAX_ACTIVATIONS];
        private final int[] heights = new int[MAX_ACTIVATIONS];
        private final int[] kinds = new int[MAX_ACTIVATIONS * FRAME];
        private final int[] values = new int[MAX_ACTIVATIONS * FRAME];
        private int poppedKind = INT;
        /** Cell 0 is not used, so that 0 can be NIL. */
        private int[] cells = new int[MAX_HEAP + 1];
        private int free = 1;

        private Task(int number, TypedModule code) {
            this.number = number;
            this.code = code;
        }

        private void begin(TypedModule module, int place, int function, int heapCells) {
            code = module;
            shelfPlace = place;
            heap = Math.max(0, Math.min(heapCells, MAX_HEAP));
            status = GOES_ON;
            trap = 0;
            steps = 0;
            activations = 0;
            free = 1;
            enter(function);
        }

        private boolean isOver() {
            return status >= OVER || activations < 1;
        }

        /** Whether there was room for one more activation; its locals are EMPTY then. */
        private boolean enter(int function) {
            if (activations >= MAX_ACTIVATIONS) {
                return false;
            }
            top = activations;
            activations++;
            functions[top] = function;
            places[top] = 0;
            heights[top] = 0;
            for (int i = top * FRAME + MAX_STACK; i < (top + 1) * FRAME; i++) {
                kinds[i] = EMPTY;
                values[i] = 0;
            }
            return true;
        }

        private void leave() {
            if (activations > 1) {
                activations--;
                top = activations - 1;
            }
        }

        private int function() {
            return functions[top];
        }

        private Routine routine() {
            return code.routineAt(functions[top]);
        }

        private int localCount() {
            Routine running = routine();
            return running == null ? 0 : running.locals;
        }

        private int place() {
            return places[top];
        }

        private void goTo(int place) {
            places[top] = place;
        }

        private int height() {
            return heights[top];
        }

        private int addressOfNext() {
            Routine running = routine();
            return running == null ? NONE : running.start + places[top];
        }

        private void push(int kind, int number) {
            int height = heights[top];
            if (height >= 0 && height < MAX_STACK) {
                kinds[top * FRAME + height] = kind;
                values[top * FRAME + height] = number;
                heights[top] = height + 1;
            }
        }

        private int pop() {
            int height = heights[top] - 1;
            if (height < 0) {
                poppedKind = EMPTY;
                return 0;
            }
            heights[top] = height;
            poppedKind = kinds[top * FRAME + height];
            return values[top * FRAME + height];
        }

        private void setLocal(int local, int kind, int number) {
            if (local >= 0 && local < MAX_LOCALS) {
                kinds[top * FRAME + MAX_STACK + local] = kind;
                values[top * FRAME + MAX_STACK + local] = number;
            }
        }

        private int kindIn(int slot) {
            return slot < 0 || slot >= FRAME ? EMPTY : kinds[top * FRAME + slot];
        }

        private int numberIn(int slot) {
            return slot < 0 || slot >= FRAME ? 0 : values[top * FRAME + slot];
        }

        /** What is on top of the stack stays there. */
        private int highest() {
            return numberIn(heights[top] - 1);
        }

        private int shown(int slot) {
            int number = numberIn(slot);
            return kindIn(slot) == NODE ? (number == 0 ? 0 : 1) : number;
        }

        private int cellAt(int i) {
            return i < 1 || i > MAX_HEAP ? 0 : cells[i];
        }

        private void setCell(int i, int number) {
            if (i >= 1 && i <= MAX_HEAP) {
                cells[i] = number;
            }
        }

        private int room() {
            return heap + 1 - free;
        }

        /** The place of a new node or row in the heap, all 0; 0 when there is no room. */
        private int make(int header) {
            int made = free;
            int size = 1 + (header & LENGTH_MASK);
            if (size > room()) {
                return 0;
            }
            setCell(made, header);
            for (int i = 1; i < size; i++) {
                setCell(made + i, 0);
            }
            free += size;
            return made;
        }

        private int lengthOf(int row) {
            return cellAt(row) & LENGTH_MASK;
        }

        private int kindOfItem(int row) {
            return cellAt(row) >= ROWS_HEADER ? NODE : INT;
        }

        private int kindOfField(int node, int f) {
            int pointers = code.pointersOf(cellAt(node) >> LENGTH_BITS);
            return (pointers >> f & 1) == 1 ? NODE : INT;
        }

        /** Moves all that is reached to the spare cells; the old ones are the next to spare. */
        private int[] collect(int[] spareCells) {
            int[] old = cells;
            cells = spareCells;
            free = 1;
            for (int a = 0; a < activations && a < MAX_ACTIVATIONS; a++) {
                for (int slot = 0; slot < FRAME; slot++) {
                    int i = a * FRAME + slot;
                    if ((slot >= MAX_STACK || slot < heights[a]) && kinds[i] == NODE) {
                        values[i] = moved(old, values[i]);
                    }
                }
            }
            int scanned = 1;
            for (int i = 0; i < MAX_HEAP && scanned < free && scanned < cells.length; i++) {
                scanned += movePartsOf(old, scanned);
            }
            return old;
        }

        /** What was moved has its new place, below 0, where its header was. */
        private int moved(int[] old, int from) {
            if (from < 1 || from > MAX_HEAP || from >= old.length) {
                return 0;
            }
            if (old[from] < 0) {
                return -old[from];
            }
            int to = free;
            int size = 1 + (old[from] & LENGTH_MASK);
            if (from + size > old.length || to < 0 || to + size > cells.length) {
                return 0;
            }
            System.arraycopy(old, from, cells, to, size);
            old[from] = -to;
            free = to + size;
            return to;
        }

        private int movePartsOf(int[] old, int at) {
            int size = 1 + (cells[at] & LENGTH_MASK);
            if (cells[at] < ROW_HEADER) {
                int pointers = code.pointersOf(cells[at] >> LENGTH_BITS);
                for (int f = 0; pointers >> f != 0 && f < MAX_FIELDS; f++) {
                    if ((pointers >> f & 1) == 1 && at + 1 + f < cells.length) {
                        cells[at + 1 + f] = moved(old, cells[at + 1 + f]);
                    }
                }
            } else if (cells[at] >= ROWS_HEADER) {
                for (int i = at + 1; i < at + size && i < cells.length; i++) {
                    cells[i] = moved(old, cells[i]);
                }
            }
            return size;
        }
    }

    /** What was booted: processes that take turns, their blocks, channels and OUTs. */
    private static final class Machine {
        private static final int NO_TRAP = 0;
        private static final int FINISHED = -1;

        private boolean booted = false;
        private final Task[] tasks = new Task[MAX_PROCESSES];
        /** Tasks are made once and used again; this tells which numbers have had one since boot. */
        private final boolean[] had = new boolean[MAX_PROCESSES];
        private final Blocks blocks = new Blocks();
        private final Ends ends = new Ends(blocks);
        private int[] spare = new int[MAX_HEAP + 1];
        private final int[] outTask = new int[MAX_OUTS];
        private final int[] outNumber = new int[MAX_OUTS];
        private int outs = 0;
        private int steps = 0;
        /** Whose turn it is, and how many steps of it are done. */
        private int current = 0;
        private int turnSteps = 0;
        private final int[] channelOf = new int[END_NUMBERS];
        /** Parameters on their way from one stack to other locals. */
        private final int[] heldKinds = new int[MAX_PARAMETERS];
        private final int[] heldNumbers = new int[MAX_PARAMETERS];

        private void start(Manifest manifest) {
            booted = true;
            for (int p = 0; p < MAX_PROCESSES; p++) {
                had[p] = false;
            }
            blocks.clear();
            ends.clear();
            outs = 0;
            steps = 0;
            current = 0;
            turnSteps = 0;
            for (int i = 0; i < END_NUMBERS; i++) {
                channelOf[i] = NONE;
            }
            for (int p = 0; p < manifest.count && p < MAX_BOOTED; p++) {
                startTask(manifest, p);
            }
        }

        private void startTask(Manifest manifest, int p) {
            TypedModule module = manifest.modules[p];
            Routine routine = module == null ? null : module.routineAt(manifest.functions[p]);
            if (routine == null) {
                return;
            }
            int heap = CELLS_OF_A_UNIT * manifest.units[p];
            Task task = begin(p, module, manifest.shelfPlaces[p], manifest.functions[p], heap);
            for (int i = 0; i < routine.parameters && i < MAX_PARAMETERS; i++) {
                int type = routine.typeOfParameter(i);
                int given = manifest.given[p * MAX_PARAMETERS + i];
                if (kindOf(type) == END) {
                    given = bootedEnd(given, sideOfEnd(type), module.contractAt(namedBy(type)), p);
                }
                task.setLocal(i, kindOf(type), given);
            }
        }

        private int bootedEnd(int number, int side, Contract contract, int p) {
            if (number < 0 || number >= END_NUMBERS) {
                return NONE;
            }
            if (channelOf[number] == NONE) {
                channelOf[number] = ends.make(contract, p);
            }
            int end = 2 * channelOf[number] + side;
            ends.give(end, p);
            return end;
        }

        private Task begin(int p, TypedModule module, int shelfPlace, int function, int heap) {
            if (tasks[p] == null) {
                tasks[p] = new Task(p, module);
            }
            had[p] = true;
            tasks[p].begin(module, shelfPlace, function, heap);
            return tasks[p];
        }

        private Task taskAt(int p) {
            return p < 0 || p >= MAX_PROCESSES || !had[p] ? null : tasks[p];
        }

        private Task livingAt(int p) {
            Task task = taskAt(p);
            return task == null || task.isOver() ? null : task;
        }

        private int living() {
            int count = 0;
            for (int p = 0; p < MAX_PROCESSES; p++) {
                if (livingAt(p) != null) {
                    count++;
                }
            }
            return count;
        }

        private boolean isStill() {
            for (int p = 0; p < MAX_PROCESSES; p++) {
                Task task = livingAt(p);
                if (task != null && outlookOf(task) == GOES_ON) {
                    return false;
                }
            }
            return true;
        }

        /** To collect tells how much is reached, and changes nothing that can be seen. */
        private int reachedBy(Task task) {
            spare = task.collect(spare);
            return task.free - 1;
        }

        private int goOn(int n) {
            int done = 0;
            int idle = 0;
            int most = (n + 1) * (MAX_PROCESSES + 1);
            for (int i = 0; i < most && done < n && idle < MAX_PROCESSES; i++) {
                Task task = livingAt(current);
                if (task != null) {
                    task.status = outlookOf(task);
                }
                if (task != null && task.status == GOES_ON) {
                    step(task);
                    done++;
                    idle = 0;
                } else {
                    idle++;
                    passOn();
                }
            }
            return done;
        }

        private void passOn() {
            current = (current + 1) % MAX_PROCESSES;
            turnSteps = 0;
        }

        /** How a process would be found now: whether its next instruction can be done. */
        private int outlookOf(Task task) {
            int address = task.addressOfNext();
            int op = task.code.byteAt(address);
            if (op == OP_RECEIVE) {
                int end = task.highest();
                return ends.waitingFor(end) > 0 ? GOES_ON : WAITS_TO_RECEIVE;
            }
            if (op == OP_SEND) {
                int end = sendingEnd(task, task.code.byteAt(address + 1));
                return ends.isFull(end ^ 1) ? WAITS_TO_SEND : GOES_ON;
            }
            return GOES_ON;
        }

        private boolean isBare(Task task, int message) {
            int top = task.height() - 1;
            return task.kindIn(top) == END && ends.sendsBare(task.numberIn(top), message);
        }

        private int sendingEnd(Task task, int message) {
            int top = task.height() - 1;
            return task.numberIn(isBare(task, message) ? top : top - 1);
        }

        private void step(Task task) {
            int address = task.addressOfNext();
            int op = task.code.byteAt(address);
            steps++;
            task.steps++;
            turnSteps++;
            task.goTo(task.place() + task.code.lengthOfInstruction(address));
            int trap = perform(task, op, address);
            if (trap != NO_TRAP) {
                task.status = trap == FINISHED ? OVER : OVER_BY_TRAP;
                task.trap = trap == FINISHED ? 0 : trap;
                blocks.freeAllOf(task.number);
                ends.closeAllOf(task.number);
            }
            ends.settle();
            if (task.isOver() || op == OP_YIELD || turnSteps >= TURN_STEPS) {
                passOn();
            }
        }

        /** Does an instruction: NO_TRAP, a trap, or FINISHED when the process is over without one. */
        private int perform(Task task, int op, int address) {
            int operand = task.code.byteAt(address + 1);
            if (op <= OP_SWAP) {
                performMove(task, op, operand, address);
                return NO_TRAP;
            }
            if (op <= OP_SAME) {
                return performInts(task, op);
            }
            if (op >= OP_BLOCK && op <= OP_FREE) {
                return performBlock(task, op, operand);
            }
            switch (op) {
                case OP_NEW:
                    int size = task.code.sizeOfRecord(operand);
                    return layInHeap(task, operand << Task.LENGTH_BITS, size);
                case OP_ROW:
                    return layInHeap(task, Task.ROW_HEADER, task.pop());
                case OP_ROWS:
                    return layInHeap(task, Task.ROWS_HEADER, task.pop());
                case OP_GET:
                case OP_PUT:
                    return performNode(task, op, operand);
                case OP_LENGTH:
                case OP_TAKE:
                case OP_LAY:
                    return performRow(task, op);
                case OP_CALL:
                    return call(task, operand);
                case OP_SEND:
                    return send(task, operand);
                case OP_RECEIVE:
                    return receive(task, address);
                case OP_SPAWN:
                    return spawn(task, operand);
                default:
                    return performFlow(task, op, operand);
            }
        }

        private void performMove(Task task, int op, int operand, int address) {
            int top = task.height() - 1;
            switch (op) {
                case OP_PUSH:
                    task.push(INT, task.code.wordAt(address + 1));
                    break;
                case OP_NIL:
                    task.push(NODE, 0);
                    break;
                case OP_LOAD:
                    int local = MAX_STACK + operand;
                    task.push(task.kindIn(local), task.numberIn(local));
                    if (isLinear(task.kindIn(local))) {
                        task.setLocal(operand, EMPTY, 0);
                    }
                    break;
                case OP_STORE:
                    int stored = task.pop();
                    task.setLocal(operand, task.poppedKind, stored);
                    break;
                case OP_POP:
                    task.pop();
                    break;
                case OP_DUP:
                    task.push(task.kindIn(top), task.numberIn(top));
                    break;
                default:
                    int upper = task.pop();
                    int upperKind = task.poppedKind;
                    int lower = task.pop();
                    int lowerKind = task.poppedKind;
                    task.push(upperKind, upper);
                    task.push(lowerKind, lower);
                    break;
            }
        }

        private int performInts(Task task, int op) {
            int b = task.pop();
            int a = task.pop();
            if ((op == OP_DIV || op == OP_REM) && b == 0) {
                return TRAP_ZERO;
            }
            task.push(INT, reckon(op, a, b));
            return NO_TRAP;
        }

        private static int reckon(int op, int a, int b) {
            switch (op) {
                case OP_ADD:
                    return a + b;
                case OP_SUB:
                    return a - b;
                case OP_MUL:
                    return a * b;
                case OP_DIV:
                    return b == 0 ? 0 : a / b;
                case OP_REM:
                    return b == 0 ? 0 : a % b;
                case OP_AND:
                    return a & b;
                case OP_OR:
                    return a | b;
                case OP_XOR:
                    return a ^ b;
                case OP_SHL:
                    return a << (b & 31);
                case OP_SHR:
                    return a >> (b & 31);
                case OP_LESS:
                    return a < b ? 1 : 0;
                default:
                    return a == b ? 1 : 0;
            }
        }

        private int performFlow(Task task, int op, int operand) {
            switch (op) {
                case OP_NONE:
                    task.push(INT, task.pop() == 0 ? 1 : 0);
                    return NO_TRAP;
                case OP_JUMP:
                    task.goTo(operand);
                    return NO_TRAP;
                case OP_ZERO:
                    if (task.pop() == 0) {
                        task.goTo(operand);
                    }
                    return NO_TRAP;
                case OP_RETURN:
                    return giveBack(task);
                case OP_CHANNEL:
                    return openChannel(task, operand);
                case OP_CLOSE:
                    ends.close(task.pop());
                    return NO_TRAP;
                case OP_EXIT:
                    return FINISHED;
                case OP_OUT:
                    return out(task);
                default:
                    return NO_TRAP;
            }
        }

        private int call(Task task, int function) {
            int count = parametersOf(task, function);
            takeParameters(task, count);
            if (!task.enter(function)) {
                return TRAP_ACTIVATION;
            }
            layParameters(task, count);
            return NO_TRAP;
        }

        private static int parametersOf(Task task, int function) {
            Routine called = task.code.routineAt(function);
            return called == null ? 0 : Math.min(called.parameters, MAX_PARAMETERS);
        }

        private void takeParameters(Task task, int count) {
            for (int i = count - 1; i >= 0; i--) {
                heldNumbers[i] = task.pop();
                heldKinds[i] = task.poppedKind;
            }
        }

        private void layParameters(Task task, int count) {
            for (int i = 0; i < count; i++) {
                task.setLocal(i, heldKinds[i], heldNumbers[i]);
            }
        }

        private int giveBack(Task task) {
            Routine ending = task.routine();
            boolean hasResult = ending != null && ending.result != NO_TYPE;
            int result = hasResult ? task.pop() : 0;
            if (task.activations <= 1) {
                return FINISHED;
            }
            task.leave();
            if (hasResult) {
                task.push(task.poppedKind, result);
            }
            return NO_TRAP;
        }

        private int spawn(Task task, int function) {
            int count = parametersOf(task, function);
            takeParameters(task, count);
            for (int p = 0; p < MAX_PROCESSES; p++) {
                if (livingAt(p) == null) {
                    layParameters(begin(p, task.code, task.shelfPlace, function, task.heap), count);
                    for (int i = 0; i < count; i++) {
                        ends.hand(heldKinds[i], heldNumbers[i], p);
                    }
                    return NO_TRAP;
                }
            }
            return TRAP_PROCESS;
        }

        private int out(Task task) {
            int number = task.pop();
            if (outs >= MAX_OUTS) {
                return TRAP_OUT;
            }
            outTask[outs] = task.number;
            outNumber[outs] = number;
            outs++;
            return NO_TRAP;
        }

        private int layInHeap(Task task, int header, int length) {
            if (length < 0) {
                return TRAP_LENGTH;
            }
            if (length >= task.heap) {
                return TRAP_HEAP;
            }
            if (length >= task.room()) {
                spare = task.collect(spare);
            }
            int made = task.make(header + length);
            if (made == 0) {
                return TRAP_HEAP;
            }
            task.push(NODE, made);
            return NO_TRAP;
        }

        private int performNode(Task task, int op, int field) {
            int put = op == OP_PUT ? task.pop() : 0;
            int node = task.pop();
            if (node == 0) {
                return TRAP_NIL;
            }
            if (op == OP_PUT) {
                task.setCell(node + 1 + field, put);
            } else {
                task.push(task.kindOfField(node, field), task.cellAt(node + 1 + field));
            }
            return NO_TRAP;
        }

        private int performRow(Task task, int op) {
            int laid = op == OP_LAY ? task.pop() : 0;
            int index = op == OP_LENGTH ? 0 : task.pop();
            int row = task.pop();
            if (row == 0) {
                return TRAP_NIL;
            }
            int length = task.lengthOf(row);
            if (op == OP_LENGTH) {
                task.push(INT, length);
                return NO_TRAP;
            }
            if (index < 0 || index >= length) {
                return TRAP_INDEX;
            }
            if (op == OP_LAY) {
                task.setCell(row + 1 + index, laid);
            } else {
                task.push(task.kindOfItem(row), task.cellAt(row + 1 + index));
            }
            return NO_TRAP;
        }

        private int performBlock(Task task, int op, int operand) {
            if (op == OP_BLOCK) {
                int made = blocks.make(task.code.sizeOfRecord(operand), task.number);
                if (made == NONE) {
                    return TRAP_BLOCK;
                }
                task.push(BLOCK, made);
                return NO_TRAP;
            }
            int number = op == OP_SET ? task.pop() : 0;
            int block = task.highest();
            if (op == OP_SEE) {
                task.push(INT, blocks.see(block, operand));
            } else if (op == OP_SET) {
                blocks.set(block, operand, number);
            } else {
                blocks.free(task.pop());
            }
            return NO_TRAP;
        }

        private int openChannel(Task task, int contract) {
            int made = ends.make(task.code.contractAt(contract), task.number);
            if (made == NONE) {
                return TRAP_CHANNEL;
            }
            task.push(END, 2 * made);
            task.push(END, 2 * made + 1);
            return NO_TRAP;
        }

        private int send(Task task, int message) {
            int kind = NO_TYPE;
            int sent = 0;
            if (!isBare(task, message)) {
                sent = task.pop();
                kind = task.poppedKind;
            }
            int end = task.highest();
            ends.moveOn(end, message);
            ends.send(end, message, kind, sent);
            return NO_TRAP;
        }

        private int receive(Task task, int address) {
            int end = task.highest();
            int message = ends.nextMessage(end);
            int kind = ends.nextLoadKind(end);
            int received = ends.nextLoad(end);
            if (message == NONE) {
                return NO_TRAP;
            }
            ends.removeNext(end);
            ends.moveOn(end, message);
            if (kind != NO_TYPE) {
                task.push(kind, received);
                ends.hand(kind, received, task.number);
            }
            task.goTo(task.code.byteAt(address + 2 + message));
            return NO_TRAP;
        }
    }
}
