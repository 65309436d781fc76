/**
 * A machine for small programs whose whole computation can be written down as an image, a row of
 * bytes, and read back. DOC.md says what each call does; its words in capitals are used here in
 * small letters, but for its threads, which are called strands.
 */
public final class SnapForge {
    private static final int MOST_FUNCTIONS = 6;
    private static final int MOST_ARGUMENTS = 2;
    private static final int MOST_CODE = 30;
    private static final int MOST_HANDLERS = 3;
    private static final int MOST_STRANDS = 3;
    private static final int MOST_FRAMES = 5;
    private static final int MOST_STACK = 6;
    private static final int MOST_OBJECTS = 24;
    private static final int MOST_HELD = 2;
    private static final int MOST_BYTES = 2400;
    private static final int MOST_SAID = 40;
    private static final int MOST_RUN = 300;
    private static final int FIELDS = 3;
    private static final int TURN = 4;
    private static final int LAST_OP = 27;

    // The sorts of values, by the numbers that the image has for them.
    private static final int NULL = 0;
    private static final int INT = 1;
    private static final int LONG = 2;
    private static final int RECORD = 3;
    private static final int CLOSURE = 4;

    // What a strand does, by the numbers that the image has for it.
    private static final int RUNS = 0;
    private static final int ENDED = 1;
    private static final int FAILED = 2;

    private static final int FINE = 0;
    private static final int ZERO = 1;
    private static final int MISFIT = 2;
    private static final int NOTHING = 3;
    private static final int FULL = 4;
    private static final int DEEP = 5;
    private static final int STACK = 6;
    private static final int BEHIND = 7;
    private static final int FIRST_THROWN = 16;
    private static final int LAST_THROWN = 31;

    private static final int OP_INT = 1;
    private static final int OP_LONG = 2;
    private static final int OP_NULL = 3;
    private static final int OP_LOAD = 4;
    private static final int OP_STORE = 5;
    private static final int OP_POP = 6;
    private static final int OP_DUP = 7;
    private static final int OP_ADD = 8;
    private static final int OP_SUB = 9;
    private static final int OP_MUL = 10;
    private static final int OP_DIV = 11;
    private static final int OP_LESS = 12;
    private static final int OP_SAME = 13;
    private static final int OP_GOTO = 14;
    private static final int OP_IF = 15;
    private static final int OP_NEW = 16;
    private static final int OP_GET = 17;
    private static final int OP_PUT = 18;
    private static final int OP_CLOSE = 19;
    private static final int OP_HELD = 20;
    private static final int OP_CALL = 21;
    private static final int OP_APPLY = 22;
    private static final int OP_RETURN = 23;
    private static final int OP_THROW = 24;
    private static final int OP_SAY = 25;
    private static final int OP_FORK = 26;
    private static final int OP_YIELD = 27;

    // What an operand may be: from 0 up to the number that stands here, or one of these two.
    private static final int NO_OPERAND = -1;
    private static final int ANY = -2;
    private static final int[] TOP_A = {
        NO_OPERAND, ANY, ANY, NO_OPERAND, 3, 3, NO_OPERAND, NO_OPERAND,
        NO_OPERAND, NO_OPERAND, NO_OPERAND, NO_OPERAND,
        NO_OPERAND, NO_OPERAND, NO_OPERAND, NO_OPERAND,
        NO_OPERAND, 2, 2, 5, 1, 5, NO_OPERAND, NO_OPERAND,
        NO_OPERAND, NO_OPERAND, 5, NO_OPERAND
    };
    private static final int[] TOP_B = {
        NO_OPERAND, NO_OPERAND, ANY, NO_OPERAND, NO_OPERAND, NO_OPERAND, NO_OPERAND, NO_OPERAND,
        NO_OPERAND, NO_OPERAND, NO_OPERAND, NO_OPERAND, NO_OPERAND, NO_OPERAND, 29, 29,
        NO_OPERAND, NO_OPERAND, NO_OPERAND, 2, NO_OPERAND, NO_OPERAND, NO_OPERAND, NO_OPERAND,
        NO_OPERAND, NO_OPERAND, NO_OPERAND, NO_OPERAND
    };
    // How many values an op takes; CLOSE, CALL and FORK take more, by their operands.
    private static final int[] TAKES = {
        0, 0, 0, 0, 0, 1, 1, 1,
        2, 2, 2, 2, 2, 2, 0, 1,
        0, 1, 2, 0, 0, 0, 1, 1,
        1, 1, 0, 0
    };

    // Where the values of a frame lie among its cells: in the order of the image.
    private static final int CLOSURE_CELL = 0;
    private static final int FIRST_LOCAL = 1;
    private static final int FIRST_STACK = 5;
    private static final int FRAME_CELLS = 11;

    private static final int NOT_FOUND = -1;
    private static final int NO_FAULT = -2;
    private static final int CODE_SUM_PLACE = 3;
    private static final int TURN_PLACE = 4;
    private static final int FIRST_BYTE = 83;
    private static final int SECOND_BYTE = 78;
    private static final int THIRD_BYTE = 1;

    private final Program program;
    private final Engine engine;
    private final Image image;
    private final Writer writer;
    private final Reader reader;
    private World spare;

    public SnapForge() {
        program = new Program();
        engine = new Engine(program);
        image = new Image();
        writer = new Writer(image);
        reader = new Reader(image);
        spare = new World();
    }

    public int function(int f, int arguments) throws IllegalArgumentException {
        if (!isFunction(f) || arguments < 0 || arguments > MOST_ARGUMENTS) {
            throw new IllegalArgumentException();
        }
        program.reset(f, arguments);
        return arguments;
    }

    public int add(int f, int op, int a, int b)
            throws IllegalArgumentException, IllegalStateException {
        if (!isFunction(f) || op < 0 || op > LAST_OP || !fits(TOP_A[op], a) || !fits(TOP_B[op], b)) {
            throw new IllegalArgumentException();
        }
        if (program.counts[f] == MOST_CODE) {
            throw new IllegalStateException();
        }
        program.append(f, op, kept(TOP_A[op], a), kept(TOP_B[op], b));
        return program.counts[f];
    }

    public int handle(int f, int from, int to, int at)
            throws IllegalArgumentException, IllegalStateException {
        if (!isFunction(f) || !isCodePlace(from) || !isCodePlace(at) || to <= from || to > MOST_CODE) {
            throw new IllegalArgumentException();
        }
        if (program.handlerCounts[f] == MOST_HANDLERS) {
            throw new IllegalStateException();
        }
        program.appendHandler(f, from, to, at);
        return program.handlerCounts[f];
    }

    public int start(int f, int x, int y) throws IllegalArgumentException {
        if (!isFunction(f)) {
            throw new IllegalArgumentException();
        }
        engine.begin(f, x, y);
        return program.arguments[f];
    }

    public int run(int limit) throws IllegalArgumentException, IllegalStateException {
        if (limit < 0 || limit > MOST_RUN) {
            throw new IllegalArgumentException();
        }
        if (engine.world.isEmpty()) {
            throw new IllegalStateException();
        }
        for (int i = 0; i < limit && engine.world.someRuns(); i++) {
            engine.step();
        }
        return engine.world.someRuns() ? 1 : 0;
    }

    public long said(int k) throws IndexOutOfBoundsException {
        if (k < 0 || k >= MOST_SAID || k >= engine.saidCount) {
            throw new IndexOutOfBoundsException();
        }
        return engine.numbersSaid[k];
    }

    public long value(int t)
            throws IndexOutOfBoundsException, IllegalStateException, UnsupportedOperationException {
        if (t < 0 || t >= engine.world.count) {
            throw new IndexOutOfBoundsException();
        }
        Strand strand = engine.world.strands[t];
        if (strand.status != ENDED) {
            throw new IllegalStateException();
        }
        if (!strand.result.isNumber(0)) {
            throw new UnsupportedOperationException();
        }
        return strand.result.numbers[0];
    }

    public int told(int what) throws IllegalArgumentException {
        if (what >= 0 && what <= 5) {
            return toldOfAll(what);
        }
        int t = what % 10;
        if (what < 10 || what >= 70 || t >= MOST_STRANDS) {
            throw new IllegalArgumentException();
        }
        if (t >= engine.world.count) {
            return -1;
        }
        return toldOfStrand(engine.world.strands[t], what / 10);
    }

    public int snapshot() throws IllegalStateException {
        if (engine.world.isEmpty()) {
            throw new IllegalStateException();
        }
        writer.write(engine.world, program.codeSum());
        return image.size;
    }

    public int load() throws IllegalArgumentException, UnsupportedOperationException {
        reader.read(spare, program.codeSum());
        if (reader.unknown) {
            throw new UnsupportedOperationException();
        }
        if (reader.fault != NO_FAULT) {
            throw new IllegalArgumentException();
        }
        World loaded = spare;
        spare = engine.world;
        engine.world = loaded;
        return loaded.count;
    }

    public int where() {
        return reader.fault;
    }

    public int image(int k) throws IndexOutOfBoundsException {
        if (k == -1) {
            return image.size;
        }
        if (k < 0 || k >= image.size) {
            throw new IndexOutOfBoundsException();
        }
        return image.bytes[k];
    }

    public int patch(int k, int b, boolean sum)
            throws IllegalArgumentException, IndexOutOfBoundsException {
        if (b < 0 || b > 255) {
            throw new IllegalArgumentException();
        }
        if (k < 0 || k > image.size || image.size == MOST_BYTES) {
            throw new IndexOutOfBoundsException();
        }
        if (k == image.size) {
            image.append(b);
            return -1;
        }
        return image.change(k, b, sum);
    }

    public int cut(int n) throws IllegalArgumentException {
        if (n < 0 || n > image.size) {
            throw new IllegalArgumentException();
        }
        int gone = image.size - n;
        image.size = n;
        return gone;
    }

    private static boolean isFunction(int f) {
        return f >= 0 && f < MOST_FUNCTIONS;
    }

    private static boolean isCodePlace(int place) {
        return place >= 0 && place < MOST_CODE;
    }

    private static boolean fits(int top, int operand) {
        return top < 0 || operand >= 0 && operand <= top;
    }

    private static int kept(int top, int operand) {
        return top == NO_OPERAND ? 0 : operand;
    }

    private int toldOfAll(int what) {
        switch (what) {
            case 0:
                return engine.world.count;
            case 1:
                return engine.world.turn;
            case 2:
                return engine.world.done;
            case 3:
                return engine.world.heap.count;
            case 4:
                return engine.steps;
            default:
                return engine.saidCount;
        }
    }

    private static int toldOfStrand(Strand strand, int what) {
        switch (what) {
            case 1:
                return strand.status;
            case 2:
                return strand.depth;
            case 3:
                return strand.error;
            default:
                return strand.status == RUNS ? toldOfFrame(strand.top(), what) : -1;
        }
    }

    private static int toldOfFrame(Frame frame, int what) {
        switch (what) {
            case 4:
                return frame.size;
            case 5:
                return frame.place;
            default:
                return frame.function;
        }
    }

    /** The functions, with their code and handlers in rows that all functions share. */
    private static final class Program {
        final int[] arguments = new int[MOST_FUNCTIONS];
        final int[] counts = new int[MOST_FUNCTIONS];
        final int[] ops = new int[MOST_FUNCTIONS * MOST_CODE];
        final int[] as = new int[MOST_FUNCTIONS * MOST_CODE];
        final int[] bs = new int[MOST_FUNCTIONS * MOST_CODE];
        final int[] handlerCounts = new int[MOST_FUNCTIONS];
        final int[] froms = new int[MOST_FUNCTIONS * MOST_HANDLERS];
        final int[] tos = new int[MOST_FUNCTIONS * MOST_HANDLERS];
        final int[] ats = new int[MOST_FUNCTIONS * MOST_HANDLERS];

        void reset(int f, int taken) {
            arguments[f] = taken;
            counts[f] = 0;
            handlerCounts[f] = 0;
        }

        void append(int f, int op, int a, int b) {
            int i = f * MOST_CODE + counts[f];
            ops[i] = op;
            as[i] = a;
            bs[i] = b;
            counts[f]++;
        }

        void appendHandler(int f, int from, int to, int at) {
            int i = f * MOST_HANDLERS + handlerCounts[f];
            froms[i] = from;
            tos[i] = to;
            ats[i] = at;
            handlerCounts[f]++;
        }

        /** Where in the rows the instruction stands. */
        int find(int f, int place) {
            return place < counts[f] ? f * MOST_CODE + place : NOT_FOUND;
        }

        /** The place where an error at this place of f goes on. */
        int findHandler(int f, int place) {
            int first = f * MOST_HANDLERS;
            for (int i = first; i < first + handlerCounts[f]; i++) {
                if (froms[i] <= place && place < tos[i]) {
                    return ats[i];
                }
            }
            return NOT_FOUND;
        }

        /** How many values must be there before instruction i does anything. */
        int taken(int i) {
            switch (ops[i]) {
                case OP_CLOSE:
                    return bs[i];
                case OP_CALL:
                case OP_FORK:
                    return arguments[as[i]];
                default:
                    return TAKES[ops[i]];
            }
        }

        int codeSum() {
            int sum = 0;
            for (int f = 0; f < MOST_FUNCTIONS; f++) {
                int first = f * MOST_CODE;
                for (int i = first; i < first + counts[f]; i++) {
                    sum = 31 * sum + ops[i] + as[i] + bs[i];
                }
            }
            return sum & 255;
        }
    }

    /**
     * A row of values that are used again and again, so that none is made while a program runs.
     * The number of an object is its slot in the heap; that of NULL is 0.
     */
    private static final class Cells {
        final int[] kinds;
        final long[] numbers;

        Cells(int count) {
            kinds = new int[count];
            numbers = new long[count];
        }

        void put(int i, int kind, long number) {
            kinds[i] = kind;
            numbers[i] = number;
        }

        void copy(int i, Cells from, int j) {
            kinds[i] = from.kinds[j];
            numbers[i] = from.numbers[j];
        }

        void putNulls(int from, int to) {
            for (int i = from; i < to; i++) {
                kinds[i] = NULL;
                numbers[i] = 0;
            }
        }

        boolean isNumber(int i) {
            return kinds[i] == INT || kinds[i] == LONG;
        }

        boolean isSame(int i, int j) {
            return kinds[i] == kinds[j] && numbers[i] == numbers[j];
        }
    }

    private static final class Frame {
        final Cells cells = new Cells(FRAME_CELLS);
        int function;
        int place;
        int size;

        /** The cell of the value on top of the stack. */
        int top() {
            return FIRST_STACK + size - 1;
        }

        /** Answers the error if it would be a seventh value. */
        int push(int kind, long number) {
            if (size >= MOST_STACK) {
                return STACK;
            }
            cells.put(FIRST_STACK + size, kind, number);
            size++;
            return FINE;
        }

        int pushCopy(Cells from, int i) {
            return push(from.kinds[i], from.numbers[i]);
        }

        /** Takes arguments from the stack of a frame, and what lies above them away with them. */
        void takeArguments(Frame from, int count, int above) {
            int first = FIRST_STACK + from.size - above - count;
            for (int i = 0; i < count; i++) {
                cells.copy(FIRST_LOCAL + i, from.cells, first + i);
            }
            from.size -= count + above;
        }
    }

    /** A thread of the document. It has frames while it runs, and none afterwards. */
    private static final class Strand {
        final Frame[] frames = new Frame[MOST_FRAMES];
        final Cells result = new Cells(1);
        int status;
        int depth;
        int error;

        Strand() {
            for (int i = 0; i < MOST_FRAMES; i++) {
                frames[i] = new Frame();
            }
        }

        void become(int newStatus, int newError) {
            status = newStatus;
            error = newError;
            depth = 0;
        }

        Frame open(int f) {
            Frame frame = frames[depth];
            depth++;
            frame.function = f;
            frame.place = 0;
            frame.size = 0;
            frame.cells.putNulls(0, FIRST_STACK);
            return frame;
        }

        Frame top() {
            return frames[depth - 1];
        }
    }

    /**
     * The objects, each in a slot with room for three values, and the search for those that are
     * still in use, which also gives them the numbers of the image.
     */
    private static final class Heap {
        final int[] kinds = new int[MOST_OBJECTS];
        final int[] functions = new int[MOST_OBJECTS];
        final int[] sizes = new int[MOST_OBJECTS];
        final Cells cells = new Cells(MOST_OBJECTS * FIELDS);
        int count;
        final int[] foundAs = new int[MOST_OBJECTS];
        final int[] found = new int[MOST_OBJECTS];
        int foundCount;

        void clear() {
            for (int slot = 0; slot < MOST_OBJECTS; slot++) {
                kinds[slot] = NULL;
            }
            count = 0;
        }

        int first(int slot) {
            return slot * FIELDS;
        }

        /** Makes an object where there is room for one; answers its slot. */
        int make(int kind, int function, int size) {
            int slot = 0;
            while (slot < MOST_OBJECTS - 1 && kinds[slot] != NULL) {
                slot++;
            }
            shape(slot, kind, function, size);
            cells.putNulls(first(slot), first(slot) + FIELDS);
            count++;
            return slot;
        }

        void shape(int slot, int kind, int function, int size) {
            kinds[slot] = kind;
            functions[slot] = function;
            sizes[slot] = size;
        }

        void beginSearch() {
            for (int slot = 0; slot < MOST_OBJECTS; slot++) {
                foundAs[slot] = NOT_FOUND;
            }
            foundCount = 0;
        }

        void meet(Cells from, int i) {
            if (from.kinds[i] != RECORD && from.kinds[i] != CLOSURE) {
                return;
            }
            int slot = (int) from.numbers[i];
            if (foundAs[slot] == NOT_FOUND) {
                foundAs[slot] = foundCount;
                found[foundCount] = slot;
                foundCount++;
            }
        }

        void dropOthers() {
            for (int slot = 0; slot < MOST_OBJECTS; slot++) {
                if (foundAs[slot] == NOT_FOUND) {
                    kinds[slot] = NULL;
                }
            }
            count = foundCount;
        }
    }

    /** All that an image tells: strands, objects and the turn. */
    private static final class World {
        final Strand[] strands = new Strand[MOST_STRANDS];
        final Heap heap = new Heap();
        int count;
        int turn;
        int done;

        World() {
            for (int t = 0; t < MOST_STRANDS; t++) {
                strands[t] = new Strand();
            }
        }

        /** Nothing was started or loaded: every world that was has a strand. */
        boolean isEmpty() {
            return count == 0;
        }

        boolean someRuns() {
            for (int t = 0; t < count; t++) {
                if (strands[t].status == RUNS) {
                    return true;
                }
            }
            return false;
        }

        void passTurn() {
            done = 0;
            for (int i = 1; i <= count; i++) {
                int t = (turn + i) % count;
                if (strands[t].status == RUNS) {
                    turn = t;
                    return;
                }
            }
        }

        /** The order of the search is that of the image, which numbers what is found. */
        void findObjects() {
            heap.beginSearch();
            for (int t = 0; t < count; t++) {
                if (strands[t].status == ENDED) {
                    heap.meet(strands[t].result, 0);
                }
                for (int i = 0; i < strands[t].depth; i++) {
                    Frame frame = strands[t].frames[i];
                    for (int j = 0; j < FIRST_STACK + frame.size; j++) {
                        heap.meet(frame.cells, j);
                    }
                }
            }
            for (int i = 0; i < MOST_OBJECTS && i < heap.foundCount; i++) {
                int slot = heap.found[i];
                for (int j = 0; j < heap.sizes[slot]; j++) {
                    heap.meet(heap.cells, heap.first(slot) + j);
                }
            }
        }

        /** Whether one more object can be made, after a search if none could be without it. */
        boolean hasRoom() {
            if (heap.count == MOST_OBJECTS) {
                findObjects();
                heap.dropOthers();
            }
            return heap.count < MOST_OBJECTS;
        }
    }

    /** Does instructions. What they answer is the error that they end in, or FINE. */
    private static final class Engine {
        final Program program;
        World world = new World();
        final long[] numbersSaid = new long[MOST_SAID];
        int saidCount;
        int steps;

        Engine(Program program) {
            this.program = program;
        }

        void begin(int f, int x, int y) {
            saidCount = 0;
            steps = 0;
            world.count = 1;
            world.turn = 0;
            world.done = 0;
            world.heap.clear();
            world.strands[0].become(RUNS, FINE);
            Frame frame = world.strands[0].open(f);
            if (program.arguments[f] > 0) {
                frame.cells.put(FIRST_LOCAL, INT, x);
            }
            if (program.arguments[f] > 1) {
                frame.cells.put(FIRST_LOCAL + 1, INT, y);
            }
        }

        /** Some strand must run; then the one whose turn it is does. */
        void step() {
            Strand strand = world.strands[world.turn];
            Frame frame = strand.top();
            int i = program.find(frame.function, frame.place);
            int error = i == NOT_FOUND ? BEHIND : perform(strand, frame, i);
            if (error != FINE) {
                raise(strand, error);
            }
            steps++;
            world.done++;
            boolean yields = i != NOT_FOUND && program.ops[i] == OP_YIELD;
            if (yields || world.done >= TURN || strand.status != RUNS) {
                world.passTurn();
            }
        }

        private void raise(Strand strand, int error) {
            for (int depth = strand.depth; depth > 0; depth--) {
                Frame frame = strand.frames[depth - 1];
                int at = program.findHandler(frame.function, frame.place);
                if (at != NOT_FOUND) {
                    strand.depth = depth;
                    frame.place = at;
                    frame.size = 0;
                    frame.push(INT, error);
                    return;
                }
            }
            strand.become(FAILED, error);
        }

        private int perform(Strand strand, Frame frame, int i) {
            int op = program.ops[i];
            int a = program.as[i];
            int b = program.bs[i];
            if (frame.size < program.taken(i)) {
                return STACK;
            }
            switch (op) {
                case OP_GOTO:
                    frame.place = b;
                    return FINE;
                case OP_IF:
                    return branch(frame, b);
                case OP_CALL:
                    return enter(strand, frame, a, 0);
                case OP_APPLY:
                    return applyClosure(strand, frame);
                case OP_RETURN:
                    return leave(strand, frame);
                case OP_NEW:
                case OP_GET:
                case OP_PUT:
                case OP_CLOSE:
                case OP_HELD:
                    return goOn(frame, performOnObjects(frame, op, a, b));
                default:
                    return goOn(frame, performInLine(frame, op, a, b));
            }
        }

        /** An error is looked for in the handlers by the place where it came, so that stays. */
        private static int goOn(Frame frame, int error) {
            if (error == FINE) {
                frame.place++;
            }
            return error;
        }

        private int performInLine(Frame frame, int op, int a, int b) {
            switch (op) {
                case OP_INT:
                    return frame.push(INT, a);
                case OP_LONG:
                    return frame.push(LONG, ((long) a << 32) + b);
                case OP_NULL:
                    return frame.push(NULL, 0);
                case OP_LOAD:
                    return frame.pushCopy(frame.cells, FIRST_LOCAL + a);
                case OP_STORE:
                    frame.cells.copy(FIRST_LOCAL + a, frame.cells, frame.top());
                    frame.size--;
                    return FINE;
                case OP_POP:
                    frame.size--;
                    return FINE;
                case OP_DUP:
                    return frame.pushCopy(frame.cells, frame.top());
                case OP_ADD:
                case OP_SUB:
                case OP_MUL:
                case OP_DIV:
                    return compute(frame, op);
                case OP_LESS:
                    return compare(frame);
                case OP_SAME:
                    return answer(frame, frame.cells.isSame(frame.top() - 1, frame.top()));
                case OP_THROW:
                    return throwNumber(frame);
                case OP_SAY:
                    return say(frame);
                case OP_FORK:
                    return fork(frame, a);
                default:
                    return FINE;
            }
        }

        private int performOnObjects(Frame frame, int op, int a, int b) {
            switch (op) {
                case OP_NEW:
                    return world.hasRoom() ? makeRecord(frame) : FULL;
                case OP_GET:
                    return getField(frame, a);
                case OP_PUT:
                    return putField(frame, a);
                case OP_CLOSE:
                    return world.hasRoom() ? makeClosure(frame, a, b) : FULL;
                default:
                    return pushHeld(frame, a);
            }
        }

        private int compute(Frame frame, int op) {
            Cells cells = frame.cells;
            int x = frame.top() - 1;
            int y = frame.top();
            if (!cells.isNumber(x) || !cells.isNumber(y)) {
                return MISFIT;
            }
            if (op == OP_DIV && cells.numbers[y] == 0) {
                return ZERO;
            }
            long result = combine(op, cells.numbers[x], cells.numbers[y]);
            boolean isLong = cells.kinds[x] == LONG || cells.kinds[y] == LONG;
            frame.size -= 2;
            return isLong ? frame.push(LONG, result) : frame.push(INT, (int) result);
        }

        private static long combine(int op, long x, long y) {
            switch (op) {
                case OP_ADD:
                    return x + y;
                case OP_SUB:
                    return x - y;
                case OP_MUL:
                    return x * y;
                default:
                    return y == 0 ? 0 : x / y;
            }
        }

        private int compare(Frame frame) {
            Cells cells = frame.cells;
            int x = frame.top() - 1;
            int y = frame.top();
            if (!cells.isNumber(x) || !cells.isNumber(y)) {
                return MISFIT;
            }
            return answer(frame, cells.numbers[x] < cells.numbers[y]);
        }

        private int answer(Frame frame, boolean isTrue) {
            frame.size -= 2;
            return frame.push(INT, isTrue ? 1 : 0);
        }

        private int branch(Frame frame, int place) {
            if (frame.cells.kinds[frame.top()] != INT) {
                return MISFIT;
            }
            frame.place = frame.cells.numbers[frame.top()] != 0 ? place : frame.place + 1;
            frame.size--;
            return FINE;
        }

        private int throwNumber(Frame frame) {
            if (frame.cells.kinds[frame.top()] != INT) {
                return MISFIT;
            }
            return FIRST_THROWN + (int) (frame.cells.numbers[frame.top()] & 15);
        }

        private int say(Frame frame) {
            if (!frame.cells.isNumber(frame.top())) {
                return MISFIT;
            }
            if (saidCount < MOST_SAID) {
                numbersSaid[saidCount] = frame.cells.numbers[frame.top()];
            }
            saidCount++;
            frame.size--;
            return FINE;
        }

        private int fork(Frame frame, int f) {
            int count = program.arguments[f];
            if (world.count == MOST_STRANDS) {
                return FULL;
            }
            if (frame.size - count == MOST_STACK) {
                return STACK;
            }
            Strand strand = world.strands[world.count];
            strand.become(RUNS, FINE);
            strand.open(f).takeArguments(frame, count, 0);
            world.count++;
            return frame.push(INT, world.count - 1);
        }

        private int makeRecord(Frame frame) {
            if (frame.size == MOST_STACK) {
                return STACK;
            }
            return frame.push(RECORD, world.heap.make(RECORD, 0, FIELDS));
        }

        private int makeClosure(Frame frame, int f, int count) {
            if (frame.size - count == MOST_STACK) {
                return STACK;
            }
            Heap heap = world.heap;
            int slot = heap.make(CLOSURE, f, count);
            frame.size -= count;
            for (int i = 0; i < count; i++) {
                heap.cells.copy(heap.first(slot) + i, frame.cells, FIRST_STACK + frame.size + i);
            }
            return frame.push(CLOSURE, slot);
        }

        private static int testKind(Cells cells, int i, int kind) {
            if (cells.kinds[i] == NULL) {
                return NOTHING;
            }
            return cells.kinds[i] == kind ? FINE : MISFIT;
        }

        private int getField(Frame frame, int field) {
            int x = frame.top();
            int error = testKind(frame.cells, x, RECORD);
            if (error != FINE) {
                return error;
            }
            Heap heap = world.heap;
            frame.cells.copy(x, heap.cells, heap.first((int) frame.cells.numbers[x]) + field);
            return FINE;
        }

        private int putField(Frame frame, int field) {
            int x = frame.top() - 1;
            int error = testKind(frame.cells, x, RECORD);
            if (error != FINE) {
                return error;
            }
            Heap heap = world.heap;
            heap.cells.copy(heap.first((int) frame.cells.numbers[x]) + field, frame.cells, x + 1);
            frame.size -= 2;
            return FINE;
        }

        private int pushHeld(Frame frame, int k) {
            if (frame.cells.kinds[CLOSURE_CELL] != CLOSURE) {
                return NOTHING;
            }
            Heap heap = world.heap;
            int slot = (int) frame.cells.numbers[CLOSURE_CELL];
            if (k >= heap.sizes[slot]) {
                return NOTHING;
            }
            return frame.pushCopy(heap.cells, heap.first(slot) + k);
        }

        /** Begins a frame of f with arguments from the stack, where so many values lie above them. */
        private int enter(Strand strand, Frame frame, int f, int above) {
            int count = program.arguments[f];
            if (frame.size - above < count) {
                return STACK;
            }
            if (strand.depth == MOST_FRAMES) {
                return DEEP;
            }
            strand.open(f).takeArguments(frame, count, above);
            return FINE;
        }

        private int applyClosure(Strand strand, Frame frame) {
            int error = testKind(frame.cells, frame.top(), CLOSURE);
            if (error != FINE) {
                return error;
            }
            int slot = (int) frame.cells.numbers[frame.top()];
            error = enter(strand, frame, world.heap.functions[slot], 1);
            if (error == FINE) {
                strand.top().cells.put(CLOSURE_CELL, CLOSURE, slot);
            }
            return error;
        }

        /** An error here is one of the frame below, as the upper one has ended before. */
        private int leave(Strand strand, Frame frame) {
            if (strand.depth == 1) {
                strand.result.copy(0, frame.cells, frame.top());
                strand.become(ENDED, FINE);
                return FINE;
            }
            strand.depth--;
            Frame below = strand.top();
            int error = below.pushCopy(frame.cells, frame.top());
            if (error == FINE) {
                below.place++;
            }
            return error;
        }
    }

    private static final class Image {
        final int[] bytes = new int[MOST_BYTES];
        int size;

        void append(int b) {
            if (size < MOST_BYTES) {
                bytes[size] = b & 255;
                size++;
            }
        }

        int change(int k, int b, boolean sum) {
            int before = bytes[k];
            int last = size - 1;
            bytes[k] = b;
            if (sum && k != last) {
                bytes[last] = (bytes[last] + b - before) & 255;
            }
            return before;
        }

        int sumOf(int count) {
            int sum = 0;
            for (int k = 0; k < count; k++) {
                sum += bytes[k];
            }
            return sum & 255;
        }
    }

    private static final class Writer {
        final Image image;

        Writer(Image image) {
            this.image = image;
        }

        void write(World world, int codeSum) {
            world.findObjects();
            image.size = 0;
            image.append(FIRST_BYTE);
            image.append(SECOND_BYTE);
            image.append(THIRD_BYTE);
            image.append(codeSum);
            image.append(world.turn);
            image.append(world.done);
            image.append(world.count);
            for (int t = 0; t < world.count; t++) {
                writeStrand(world.strands[t], world.heap);
            }
            writeObjects(world.heap);
            image.append(image.sumOf(image.size));
        }

        private void writeStrand(Strand strand, Heap heap) {
            image.append(strand.status);
            if (strand.status == ENDED) {
                writeValues(strand.result, 0, 1, heap);
                return;
            }
            if (strand.status == FAILED) {
                image.append(strand.error);
                return;
            }
            image.append(strand.depth);
            for (int i = 0; i < strand.depth; i++) {
                writeFrame(strand.frames[i], heap);
            }
        }

        private void writeFrame(Frame frame, Heap heap) {
            image.append(frame.function);
            image.append(frame.place);
            writeValues(frame.cells, 0, FIRST_STACK, heap);
            image.append(frame.size);
            writeValues(frame.cells, FIRST_STACK, FIRST_STACK + frame.size, heap);
        }

        private void writeObjects(Heap heap) {
            image.append(heap.foundCount);
            for (int i = 0; i < heap.foundCount; i++) {
                int slot = heap.found[i];
                image.append(heap.kinds[slot]);
                if (heap.kinds[slot] == CLOSURE) {
                    image.append(heap.functions[slot]);
                    image.append(heap.sizes[slot]);
                }
                int first = heap.first(slot);
                writeValues(heap.cells, first, first + heap.sizes[slot], heap);
            }
        }

        private void writeValues(Cells cells, int from, int to, Heap heap) {
            for (int i = from; i < to; i++) {
                image.append(cells.kinds[i]);
                switch (cells.kinds[i]) {
                    case INT:
                        writeNumber(cells.numbers[i], 4);
                        break;
                    case LONG:
                        writeNumber(cells.numbers[i], 8);
                        break;
                    case RECORD:
                    case CLOSURE:
                        image.append(heap.foundAs[(int) cells.numbers[i]]);
                        break;
                    default:
                        break;
                }
            }
        }

        private void writeNumber(long number, int count) {
            for (int i = 0; i < count; i++) {
                image.append((int) (number >> (8 * i)));
            }
        }
    }

    /**
     * Reads the image into a world that is in nobody's use, so that a fault spoils nothing. Behind
     * the first fault each byte counts as the least that it may be, and the place stays.
     */
    private static final class Reader {
        final Image image;
        World world;
        int fault = NO_FAULT;
        boolean unknown;
        int place;
        int objectLimit;

        Reader(Image image) {
            this.image = image;
        }

        void read(World into, int codeSum) {
            world = into;
            fault = NO_FAULT;
            place = 0;
            objectLimit = MOST_OBJECTS;
            world.heap.clear();
            readByte(FIRST_BYTE, FIRST_BYTE);
            readByte(SECOND_BYTE, SECOND_BYTE);
            readByte(THIRD_BYTE, THIRD_BYTE);
            boolean hasCodeSum = fault == NO_FAULT && image.size > CODE_SUM_PLACE;
            readByte(codeSum, codeSum);
            unknown = hasCodeSum && fault != NO_FAULT;
            world.turn = readByte(0, MOST_STRANDS - 1);
            world.done = readByte(0, TURN - 1);
            world.count = readByte(1, MOST_STRANDS);
            for (int t = 0; t < world.count; t++) {
                readStrand(world.strands[t]);
            }
            readObjects();
            readEnd();
            testTurn();
        }

        private int readByte(int least, int most) {
            if (fault != NO_FAULT) {
                return least;
            }
            if (place >= image.size || image.bytes[place] < least || image.bytes[place] > most) {
                fault = place;
                return least;
            }
            place++;
            return image.bytes[place - 1];
        }

        /** The byte that was read last is in its bounds, but not as it should be. */
        private void refuseByte() {
            if (fault == NO_FAULT) {
                fault = place - 1;
            }
        }

        private void readStrand(Strand strand) {
            strand.become(readByte(RUNS, FAILED), FINE);
            if (strand.status == ENDED) {
                readValues(strand.result, 0, 1);
                return;
            }
            if (strand.status == FAILED) {
                strand.error = readError();
                return;
            }
            int count = readByte(1, MOST_FRAMES);
            for (int i = 0; i < count; i++) {
                readFrame(strand.open(readByte(0, MOST_FUNCTIONS - 1)));
            }
        }

        private int readError() {
            int error = readByte(ZERO, LAST_THROWN);
            if (error > BEHIND && error < FIRST_THROWN) {
                refuseByte();
            }
            return error;
        }

        private void readFrame(Frame frame) {
            frame.place = readByte(0, MOST_CODE);
            readClosure(frame.cells);
            readValues(frame.cells, FIRST_LOCAL, FIRST_STACK);
            frame.size = readByte(0, MOST_STACK);
            readValues(frame.cells, FIRST_STACK, FIRST_STACK + frame.size);
        }

        private void readClosure(Cells cells) {
            int kind = readByte(NULL, CLOSURE);
            if (kind != NULL && kind != CLOSURE) {
                refuseByte();
            }
            cells.put(CLOSURE_CELL, kind, kind == CLOSURE ? readObjectNumber(CLOSURE) : 0);
        }

        private void readValues(Cells cells, int from, int to) {
            for (int i = from; i < to; i++) {
                int kind = readByte(NULL, CLOSURE);
                switch (kind) {
                    case INT:
                        cells.put(i, INT, (int) readNumber(4));
                        break;
                    case LONG:
                        cells.put(i, LONG, readNumber(8));
                        break;
                    case RECORD:
                    case CLOSURE:
                        cells.put(i, kind, readObjectNumber(kind));
                        break;
                    default:
                        cells.put(i, NULL, 0);
                        break;
                }
            }
        }

        private long readNumber(int count) {
            long number = 0;
            for (int i = 0; i < count; i++) {
                number |= (long) readByte(0, 255) << (8 * i);
            }
            return number;
        }

        /** The heap counts the objects that came up, and keeps the kinds that they came up with. */
        private int readObjectNumber(int kind) {
            Heap heap = world.heap;
            int number = readByte(0, Math.min(heap.count, objectLimit - 1));
            if (fault != NO_FAULT) {
                return 0;
            }
            if (number == heap.count) {
                heap.kinds[number] = kind;
                heap.count++;
            } else if (heap.kinds[number] != kind) {
                refuseByte();
            }
            return number;
        }

        private void readObjects() {
            Heap heap = world.heap;
            objectLimit = readByte(heap.count, MOST_OBJECTS);
            for (int slot = 0; slot < objectLimit && fault == NO_FAULT; slot++) {
                if (slot == heap.count) {
                    fault = place;
                } else {
                    readObject(slot);
                }
            }
        }

        private void readObject(int slot) {
            Heap heap = world.heap;
            int kind = readByte(heap.kinds[slot], heap.kinds[slot]);
            int function = kind == CLOSURE ? readByte(0, MOST_FUNCTIONS - 1) : 0;
            int size = kind == CLOSURE ? readByte(0, MOST_HELD) : FIELDS;
            heap.shape(slot, kind, function, size);
            readValues(heap.cells, heap.first(slot), heap.first(slot) + size);
        }

        private void readEnd() {
            int sum = image.sumOf(place);
            readByte(sum, sum);
            if (fault == NO_FAULT && place < image.size) {
                fault = place;
            }
        }

        private void testTurn() {
            boolean isThere = world.turn < world.count;
            boolean runs = isThere && world.strands[world.turn].status == RUNS;
            if (fault == NO_FAULT && (!isThere || !runs && world.someRuns())) {
                fault = TURN_PLACE;
            }
        }
    }
}
