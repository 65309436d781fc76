import java.util.ArrayList;
import java.util.Collections;
import java.util.IdentityHashMap;
import java.util.List;
import java.util.Map;
import java.util.Set;
import java.util.TreeMap;

/**
 * The document once more, written with Java's own objects and exceptions and with no regard to
 * room, for FuzzTest to compare with. Values are null, Integer, Long, Rec and Clo.
 */
final class Model {
    static final class Rec {
        final Object[] fields = new Object[3];
    }

    static final class Clo {
        int function;
        final List<Object> held = new ArrayList<>();
    }

    static final class Fn {
        int arguments;
        final List<int[]> code = new ArrayList<>();
        final List<int[]> handlers = new ArrayList<>();
    }

    static final class Fr {
        final int function;
        int place = 0;
        Clo closure = null;
        final Object[] locals = new Object[4];
        final List<Object> stack = new ArrayList<>();

        Fr(int function) {
            this.function = function;
        }

        Object pop() {
            return stack.remove(stack.size() - 1);
        }

        void need(int n) {
            if (stack.size() < n) {
                throw new Err(6);
            }
        }

        void push(Object v) {
            if (stack.size() == 6) {
                throw new Err(6);
            }
            stack.add(v);
        }
    }

    static final class Th {
        List<Fr> frames = new ArrayList<>();
        boolean ended = false;
        Object value = null;
        int error = 0;

        boolean runs() {
            return !ended && error == 0;
        }

        Fr top() {
            return frames.get(frames.size() - 1);
        }
    }

    static final class State {
        final List<Th> threads = new ArrayList<>();
        int turn = 0;
        int done = 0;
        int counted = 0;
    }

    static final class Err extends RuntimeException {
        private static final long serialVersionUID = 1;
        final int code;

        Err(int code) {
            super(null, null, false, false);
            this.code = code;
        }
    }

    static final class Fault extends RuntimeException {
        private static final long serialVersionUID = 1;
        final int place;
        final boolean unknown;

        Fault(int place, boolean unknown) {
            super(null, null, false, false);
            this.place = place;
            this.unknown = unknown;
        }
    }

    final Fn[] functions = new Fn[6];
    State state = new State();
    final List<Long> said = new ArrayList<>();
    List<Integer> image = new ArrayList<>();
    int steps = 0;
    int fault = -2;
    /** What came about, so that the fuzz can tell that it reaches all of it. */
    final Map<String, Integer> seen;

    Model(Map<String, Integer> seen) {
        this.seen = seen;
        for (int f = 0; f < 6; f++) {
            functions[f] = new Fn();
        }
    }

    Model() {
        this(new TreeMap<>());
    }

    private void see(String what) {
        seen.merge(what, 1, Integer::sum);
    }

    private static void argument(boolean isGood) {
        if (!isGood) {
            throw new IllegalArgumentException();
        }
    }

    private static void state(boolean isGood) {
        if (!isGood) {
            throw new IllegalStateException();
        }
    }

    private static void index(boolean isGood) {
        if (!isGood) {
            throw new IndexOutOfBoundsException();
        }
    }

    private static boolean in(int x, int low, int high) {
        return low <= x && x <= high;
    }

    int function(int f, int arguments) {
        argument(in(f, 0, 5) && in(arguments, 0, 2));
        functions[f] = new Fn();
        functions[f].arguments = arguments;
        return arguments;
    }

    int add(int f, int op, int a, int b) {
        argument(in(f, 0, 5) && in(op, 0, 27));
        boolean hasA = List.of(1, 2, 4, 5, 17, 18, 19, 20, 21, 26).contains(op);
        boolean hasB = List.of(2, 14, 15, 19).contains(op);
        if (op == 4 || op == 5) {
            argument(in(a, 0, 3));
        }
        if (op == 17 || op == 18) {
            argument(in(a, 0, 2));
        }
        if (op == 19 || op == 21 || op == 26) {
            argument(in(a, 0, 5));
        }
        if (op == 20) {
            argument(in(a, 0, 1));
        }
        if (op == 14 || op == 15) {
            argument(in(b, 0, 29));
        }
        if (op == 19) {
            argument(in(b, 0, 2));
        }
        List<int[]> code = functions[f].code;
        state(code.size() < 30);
        code.add(new int[] {op, hasA ? a : 0, hasB ? b : 0});
        return code.size();
    }

    int handle(int f, int from, int to, int at) {
        argument(in(f, 0, 5) && in(from, 0, 29) && in(at, 0, 29) && to > from && to <= 30);
        List<int[]> handlers = functions[f].handlers;
        state(handlers.size() < 3);
        handlers.add(new int[] {from, to, at});
        return handlers.size();
    }

    int start(int f, int x, int y) {
        argument(in(f, 0, 5));
        state = new State();
        Fr frame = new Fr(f);
        int n = functions[f].arguments;
        if (n >= 1) {
            frame.locals[0] = x;
        }
        if (n == 2) {
            frame.locals[1] = y;
        }
        Th thread = new Th();
        thread.frames.add(frame);
        state.threads.add(thread);
        said.clear();
        steps = 0;
        return n;
    }

    private boolean someRuns() {
        return state.threads.stream().anyMatch(Th::runs);
    }

    int run(int limit) {
        argument(in(limit, 0, 300));
        state(!state.threads.isEmpty());
        int left = limit;
        while (left > 0 && someRuns()) {
            step();
            left--;
        }
        return someRuns() ? 1 : 0;
    }

    private void step() {
        Th thread = state.threads.get(state.turn);
        Fr frame = thread.top();
        List<int[]> code = functions[frame.function].code;
        boolean yield = false;
        try {
            if (frame.place >= code.size()) {
                throw new Err(7);
            }
            int[] i = code.get(frame.place);
            yield = i[0] == 27;
            see("op " + i[0]);
            execute(thread, frame, i[0], i[1], i[2]);
            see("done " + i[0]);
        } catch (Err e) {
            see("error " + e.code);
            error(thread, e.code);
        }
        steps++;
        state.done++;
        if (yield || state.done == 4 || !thread.runs()) {
            state.done = 0;
            int n = state.threads.size();
            for (int k = 1; k <= n; k++) {
                int t = (state.turn + k) % n;
                if (state.threads.get(t).runs()) {
                    state.turn = t;
                    break;
                }
            }
        }
    }

    private void error(Th thread, int code) {
        while (!thread.frames.isEmpty()) {
            Fr frame = thread.top();
            for (int[] h : functions[frame.function].handlers) {
                if (h[0] <= frame.place && frame.place < h[1]) {
                    frame.stack.clear();
                    frame.stack.add(code);
                    frame.place = h[2];
                    see("handled");
                    return;
                }
            }
            thread.frames.remove(thread.frames.size() - 1);
            see("unwound");
        }
        thread.error = code;
    }

    private static long number(Object v) {
        if (v instanceof Integer i) {
            return i;
        }
        if (v instanceof Long l) {
            return l;
        }
        throw new Err(2);
    }

    private static int integer(Object v) {
        if (v instanceof Integer i) {
            return i;
        }
        throw new Err(2);
    }

    private static Object arithmetic(int op, Object x, Object y) {
        number(x);
        number(y);
        if (op == 11 && number(y) == 0) {
            throw new Err(1);
        }
        if (x instanceof Integer p && y instanceof Integer q) {
            int a = p;
            int b = q;
            return op == 8 ? a + b : op == 9 ? a - b : op == 10 ? a * b : a / b;
        }
        long a = number(x);
        long b = number(y);
        return op == 8 ? a + b : op == 9 ? a - b : op == 10 ? a * b : a / b;
    }

    private static boolean same(Object x, Object y) {
        boolean numbers = x instanceof Integer || x instanceof Long;
        return numbers ? x.equals(y) : x == y;
    }

    private static Rec record(Object v) {
        if (v == null) {
            throw new Err(3);
        }
        if (v instanceof Rec r) {
            return r;
        }
        throw new Err(2);
    }

    private void room() {
        if (state.counted < 24) {
            return;
        }
        state.counted = found().size();
        see(state.counted == 24 ? "full" : "collected");
        if (state.counted == 24) {
            throw new Err(4);
        }
    }

    private void roots(List<Object> into) {
        for (Th t : state.threads) {
            if (t.ended) {
                into.add(t.value);
            }
            for (Fr f : t.frames) {
                into.add(f.closure);
                into.addAll(java.util.Arrays.asList(f.locals));
                into.addAll(f.stack);
            }
        }
    }

    private static List<Object> inside(Object o) {
        return o instanceof Rec r ? java.util.Arrays.asList(r.fields) : ((Clo) o).held;
    }

    private Set<Object> found() {
        Set<Object> set = Collections.newSetFromMap(new IdentityHashMap<>());
        List<Object> open = new ArrayList<>();
        roots(open);
        while (!open.isEmpty()) {
            Object v = open.remove(open.size() - 1);
            if ((v instanceof Rec || v instanceof Clo) && set.add(v)) {
                open.addAll(inside(v));
            }
        }
        return set;
    }

    private Fr begin(Fr from, int f) {
        Fr frame = new Fr(f);
        for (int i = functions[f].arguments - 1; i >= 0; i--) {
            frame.locals[i] = from.pop();
        }
        return frame;
    }

    private void execute(Th thread, Fr frame, int op, int a, int b) {
        switch (op) {
            case 14 -> frame.place = b;
            case 15 -> {
                frame.need(1);
                frame.place = integer(frame.pop()) != 0 ? b : frame.place + 1;
            }
            case 21 -> {
                frame.need(functions[a].arguments);
                deep(thread);
                thread.frames.add(begin(frame, a));
            }
            case 22 -> apply(thread, frame);
            case 23 -> leave(thread, frame);
            default -> {
                inLine(frame, op, a, b);
                frame.place++;
            }
        }
    }

    private static void deep(Th thread) {
        if (thread.frames.size() == 5) {
            throw new Err(5);
        }
    }

    private void apply(Th thread, Fr frame) {
        frame.need(1);
        Object x = frame.pop();
        if (x == null) {
            throw new Err(3);
        }
        if (!(x instanceof Clo)) {
            throw new Err(2);
        }
        Clo closure = (Clo) x;
        frame.need(functions[closure.function].arguments);
        deep(thread);
        Fr next = begin(frame, closure.function);
        next.closure = closure;
        thread.frames.add(next);
    }

    private void leave(Th thread, Fr frame) {
        frame.need(1);
        Object x = frame.pop();
        thread.frames.remove(thread.frames.size() - 1);
        if (thread.frames.isEmpty()) {
            thread.ended = true;
            thread.value = x;
            return;
        }
        Fr below = thread.top();
        if (below.stack.size() == 6) {
            see("return onto a full stack");
        }
        below.push(x);
        below.place++;
    }

    private void inLine(Fr frame, int op, int a, int b) {
        Object x;
        Object y;
        switch (op) {
            case 0, 27 -> { }
            case 1 -> frame.push(a);
            case 2 -> frame.push(a * 4294967296L + b);
            case 3 -> frame.push(null);
            case 4 -> frame.push(frame.locals[a]);
            case 5 -> {
                frame.need(1);
                frame.locals[a] = frame.pop();
            }
            case 6 -> {
                frame.need(1);
                frame.pop();
            }
            case 7 -> {
                frame.need(1);
                frame.push(frame.stack.get(frame.stack.size() - 1));
            }
            case 8, 9, 10, 11 -> {
                frame.need(2);
                y = frame.pop();
                x = frame.pop();
                frame.push(arithmetic(op, x, y));
            }
            case 12 -> {
                frame.need(2);
                y = frame.pop();
                x = frame.pop();
                frame.push(number(x) < number(y) ? 1 : 0);
            }
            case 13 -> {
                frame.need(2);
                y = frame.pop();
                x = frame.pop();
                frame.push(same(x, y) ? 1 : 0);
            }
            case 24 -> {
                frame.need(1);
                throw new Err(16 + Math.floorMod(integer(frame.pop()), 16));
            }
            case 25 -> {
                frame.need(1);
                said.add(number(frame.pop()));
            }
            case 26 -> fork(frame, a);
            default -> onObjects(frame, op, a, b);
        }
    }

    private void fork(Fr frame, int a) {
        frame.need(functions[a].arguments);
        if (state.threads.size() == 3) {
            throw new Err(4);
        }
        if (functions[a].arguments == 0 && frame.stack.size() == 6) {
            throw new Err(6);
        }
        Th thread = new Th();
        thread.frames.add(begin(frame, a));
        frame.push(state.threads.size());
        state.threads.add(thread);
    }

    private void onObjects(Fr frame, int op, int a, int b) {
        switch (op) {
            case 16 -> {
                room();
                frame.push(new Rec());
                state.counted++;
            }
            case 17 -> {
                frame.need(1);
                frame.push(record(frame.pop()).fields[a]);
            }
            case 18 -> {
                frame.need(2);
                Object y = frame.pop();
                record(frame.pop()).fields[a] = y;
            }
            case 19 -> {
                frame.need(b);
                room();
                Clo closure = new Clo();
                closure.function = a;
                for (int i = 0; i < b; i++) {
                    closure.held.add(0, frame.pop());
                }
                frame.push(closure);
                state.counted++;
            }
            case 20 -> {
                if (frame.closure == null || frame.closure.held.size() <= a) {
                    throw new Err(3);
                }
                frame.push(frame.closure.held.get(a));
            }
            default -> throw new AssertionError(op);
        }
    }

    long said(int k) {
        index(in(k, 0, 39) && k < said.size());
        return said.get(k);
    }

    long value(int t) {
        index(in(t, 0, state.threads.size() - 1));
        Th thread = state.threads.get(t);
        state(thread.ended);
        if (!(thread.value instanceof Integer || thread.value instanceof Long)) {
            throw new UnsupportedOperationException();
        }
        return number(thread.value);
    }

    int told(int what) {
        argument(in(what, 0, 5) || in(what, 10, 69) && what % 10 <= 2);
        switch (what) {
            case 0:
                return state.threads.size();
            case 1:
                return state.turn;
            case 2:
                return state.done;
            case 3:
                return state.counted;
            case 4:
                return steps;
            case 5:
                return said.size();
            default:
                break;
        }
        int t = what % 10;
        if (t >= state.threads.size()) {
            return -1;
        }
        Th thread = state.threads.get(t);
        switch (what / 10) {
            case 1:
                return thread.runs() ? 0 : thread.ended ? 1 : 2;
            case 2:
                return thread.frames.size();
            case 3:
                return thread.error;
            default:
                break;
        }
        if (!thread.runs()) {
            return -1;
        }
        Fr top = thread.top();
        return what < 50 ? top.stack.size() : what < 60 ? top.place : top.function;
    }

    private int codeSum() {
        int s = 0;
        for (Fn f : functions) {
            for (int[] i : f.code) {
                s = 31 * s + i[0] + i[1] + i[2];
            }
        }
        return s & 0xff;
    }

    int snapshot() {
        state(!state.threads.isEmpty());
        List<Integer> out = new ArrayList<>(List.of(83, 78, 1, codeSum(), state.turn, state.done));
        List<Object> numbers = new ArrayList<>();
        out.add(state.threads.size());
        for (Th t : state.threads) {
            if (t.ended) {
                out.add(1);
                write(out, t.value, numbers);
            } else if (t.error != 0) {
                out.add(2);
                out.add(t.error);
            } else {
                out.add(0);
                out.add(t.frames.size());
                for (Fr f : t.frames) {
                    out.add(f.function);
                    out.add(f.place);
                    write(out, f.closure, numbers);
                    for (Object l : f.locals) {
                        write(out, l, numbers);
                    }
                    out.add(f.stack.size());
                    for (Object v : f.stack) {
                        write(out, v, numbers);
                    }
                }
            }
        }
        int countAt = out.size();
        out.add(0);
        for (int i = 0; i < numbers.size(); i++) {
            Object o = numbers.get(i);
            out.add(o instanceof Rec ? 3 : 4);
            if (o instanceof Clo c) {
                out.add(c.function);
                out.add(c.held.size());
            }
            for (Object v : inside(o)) {
                write(out, v, numbers);
            }
        }
        out.set(countAt, numbers.size());
        out.add(out.stream().mapToInt(Integer::intValue).sum() & 255);
        image = out;
        return out.size();
    }

    private static void write(List<Integer> out, Object v, List<Object> numbers) {
        if (v == null) {
            out.add(0);
        } else if (v instanceof Integer i) {
            out.add(1);
            for (int k = 0; k < 32; k += 8) {
                out.add(i >>> k & 255);
            }
        } else if (v instanceof Long l) {
            out.add(2);
            for (int k = 0; k < 64; k += 8) {
                out.add((int) (l >>> k & 255));
            }
        } else {
            int n = 0;
            while (n < numbers.size() && numbers.get(n) != v) {
                n++;
            }
            if (n == numbers.size()) {
                numbers.add(v);
            }
            out.add(v instanceof Rec ? 3 : 4);
            out.add(n);
        }
    }

    int load() {
        try {
            state = new Loading().read();
            fault = -2;
            see("loaded");
            return state.threads.size();
        } catch (Fault f) {
            fault = f.place;
            if (f.unknown) {
                see("unknown");
                throw new UnsupportedOperationException();
            }
            see("fault");
            throw new IllegalArgumentException();
        }
    }

    /** One reading of the image. */
    private final class Loading {
        int at = 0;
        int limit = 24;
        final List<Object> objects = new ArrayList<>();

        int peek(String what) {
            if (at == image.size()) {
                see("missing " + what);
                throw new Fault(at, false);
            }
            return image.get(at);
        }

        int take(String what, boolean isGood) {
            if (!isGood) {
                see("fault " + what);
                throw new Fault(at, false);
            }
            return image.get(at++);
        }

        int take(String what, int low, int high) {
            return take(what, in(peek(what), low, high));
        }

        State read() {
            take("head", 83, 83);
            take("head", 78, 78);
            take("head", 1, 1);
            if (peek("code sum") != codeSum()) {
                throw new Fault(3, true);
            }
            at++;
            State s = new State();
            s.turn = take("turn", 0, 2);
            s.done = take("done", 0, 3);
            int threads = take("threads", 1, 3);
            for (int t = 0; t < threads; t++) {
                s.threads.add(thread());
            }
            limit = take("objects", objects.size(), 24);
            for (int i = 0; i < limit; i++) {
                object(i);
            }
            int sum = 0;
            for (int k = 0; k < at; k++) {
                sum += image.get(k);
            }
            take("sum", sum & 255, sum & 255);
            if (at != image.size()) {
                see("fault behind");
                throw new Fault(at, false);
            }
            boolean some = s.threads.stream().anyMatch(Th::runs);
            if (s.turn >= threads || some && !s.threads.get(s.turn).runs()) {
                see("fault turn at last");
                throw new Fault(4, false);
            }
            s.counted = limit;
            return s;
        }

        private Th thread() {
            Th t = new Th();
            switch (take("status", 0, 2)) {
                case 0 -> {
                    int frames = take("frames", 1, 5);
                    for (int i = 0; i < frames; i++) {
                        t.frames.add(frame());
                    }
                }
                case 1 -> {
                    t.ended = true;
                    t.value = value(false);
                }
                default -> {
                    int e = peek("error");
                    t.error = take("error", in(e, 1, 7) || in(e, 16, 31));
                }
            }
            return t;
        }

        private Fr frame() {
            Fr f = new Fr(take("function", 0, 5));
            f.place = take("place", 0, 30);
            f.closure = (Clo) value(true);
            for (int i = 0; i < 4; i++) {
                f.locals[i] = value(false);
            }
            int size = take("stack", 0, 6);
            for (int i = 0; i < size; i++) {
                f.stack.add(value(false));
            }
            return f;
        }

        private Object value(boolean closureAlone) {
            int kind = peek("kind");
            if (closureAlone) {
                take("closure", kind == 0 || kind == 4);
            } else {
                take("kind", 0, 4);
            }
            switch (kind) {
                case 0:
                    return null;
                case 1:
                    return (int) bytes(4);
                case 2:
                    return bytes(8);
                default:
                    return reference(kind);
            }
        }

        private long bytes(int n) {
            long v = 0;
            for (int i = 0; i < n; i++) {
                v += (long) take("byte", 0, 255) << (8 * i);
            }
            return v;
        }

        private Object reference(int kind) {
            int n = peek("number");
            take("number 24", n < 24);
            at--;
            take("number above", n <= objects.size());
            at--;
            take("number limit", n < limit);
            at--;
            if (n < objects.size()) {
                take("number sort", objects.get(n) instanceof Rec == (kind == 3));
            } else {
                at++;
                objects.add(kind == 3 ? new Rec() : new Clo());
            }
            return objects.get(n);
        }

        private void object(int i) {
            int kind = peek("object");
            take("object that did not come up", i < objects.size());
            at--;
            Object o = objects.get(i);
            take("object sort", kind == (o instanceof Rec ? 3 : 4));
            if (o instanceof Rec r) {
                for (int k = 0; k < 3; k++) {
                    r.fields[k] = value(false);
                }
            } else if (o instanceof Clo c) {
                c.function = take("function of closure", 0, 5);
                int held = take("held", 0, 2);
                for (int k = 0; k < held; k++) {
                    c.held.add(value(false));
                }
            }
        }
    }

    int where() {
        return fault;
    }

    int image(int k) {
        if (k == -1) {
            return image.size();
        }
        index(in(k, 0, image.size() - 1));
        return image.get(k);
    }

    int patch(int k, int b, boolean sum) {
        argument(in(b, 0, 255));
        int n = image.size();
        index(in(k, 0, n) && n != 2400);
        if (k == n) {
            image.add(b);
            return -1;
        }
        int was = image.set(k, b);
        if (sum && k < n - 1) {
            image.set(n - 1, Math.floorMod(image.get(n - 1) + b - was, 256));
        }
        return was;
    }

    int cut(int n) {
        int before = image.size();
        argument(in(n, 0, before));
        image = new ArrayList<>(image.subList(0, n));
        return before - n;
    }
}
