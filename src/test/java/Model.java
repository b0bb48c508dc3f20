import java.util.ArrayList;
import java.util.List;

/**
 * The document once more, held in lists and Java's own exceptions, for ModelTest to compare with.
 * It shares nothing with StackRun, so that a slip in one of the two shows.
 */
final class Model {
    private static final int NONE = -1;

    private record Instruction(int operation, int number) { }

    /** For any code if code is null. */
    private record Handler(int from, int to, int target, Integer code) { }

    private record Outside(int number, List<Integer> ints, int answer) { }

    private static final class Function {
        int params;
        int locals;
        int result;
        final List<Instruction> code = new ArrayList<>();
        final List<Handler> handlers = new ArrayList<>();
    }

    /** VALUES are Integers and int[]s. */
    private static final class Frame {
        int function;
        int next;
        final List<Object> stack = new ArrayList<>();
        final List<Object> locals = new ArrayList<>();
    }

    private static final class Run {
        final List<Frame> frames = new ArrayList<>();
        final List<int[]> rows = new ArrayList<>();
        final List<Outside> outside = new ArrayList<>();
        int steps;
        int most;
        int ended = NONE;
        Object value;
    }

    private static final class Broken extends Exception {
        private static final long serialVersionUID = 1;
    }

    private static final class Thrown extends Exception {
        private static final long serialVersionUID = 1;
        final int code;

        Thrown(int code) {
            this.code = code;
        }
    }

    private final List<Function> functions = new ArrayList<>();
    private final List<Integer> answers = new ArrayList<>();
    private Run run = null;

    int function(int params, int locals, int result) {
        if (params < 0 || params > 4 || locals < params || locals > 8 || result < 0 || result > 1
                || functions.size() == 8) {
            return NONE;
        }
        Function f = new Function();
        f.params = params;
        f.locals = locals;
        f.result = result;
        functions.add(f);
        run = null;
        return functions.size() - 1;
    }

    private boolean isFunction(int f) {
        return f >= 0 && f < functions.size();
    }

    int add(int function, int operation, int number) {
        if (!isFunction(function) || functions.get(function).code.size() == 100 || operation < 0 || operation > 28) {
            return NONE;
        }
        functions.get(function).code.add(new Instruction(operation, number));
        run = null;
        return functions.get(function).code.size() - 1;
    }

    boolean change(int function, int i, int operation, int number) {
        if (!isFunction(function) || i < 0 || i >= functions.get(function).code.size()
                || operation < 0 || operation > 28) {
            return false;
        }
        functions.get(function).code.set(i, new Instruction(operation, number));
        run = null;
        return true;
    }

    boolean handler(int function, int from, int to, int target) {
        if (!isFunction(function) || functions.get(function).handlers.size() == 4 || from < 0 || from > 100
                || to < 0 || to > 100 || target < 0 || target > 100) {
            return false;
        }
        functions.get(function).handlers.add(new Handler(from, to, target, null));
        run = null;
        return true;
    }

    boolean only(int function, int code) {
        if (!isFunction(function) || functions.get(function).handlers.isEmpty()) {
            return false;
        }
        List<Handler> all = functions.get(function).handlers;
        Handler last = all.remove(all.size() - 1);
        all.add(new Handler(last.from, last.to, last.target, code));
        run = null;
        return true;
    }

    void clear() {
        functions.clear();
        run = null;
    }

    int answer(int v) {
        if (answers.size() == 64) {
            return NONE;
        }
        answers.add(v);
        return answers.size();
    }

    void forget() {
        answers.clear();
    }

    void begin() {
        run = new Run();
        run.frames.add(newFrame(0, List.of()));
        run.most = 1;
    }

    private Frame newFrame(int function, List<Object> params) {
        Frame f = new Frame();
        f.function = function;
        f.locals.addAll(params);
        while (isFunction(function) && f.locals.size() < functions.get(function).locals) {
            f.locals.add(0);
        }
        return f;
    }

    int go(int n) {
        if (n < 1 || n > 5000 || run == null) {
            return NONE;
        }
        int done = 0;
        for (; done < n && run.ended == NONE; done++) {
            run.steps++;
            try {
                instruction(latest());
            } catch (Broken b) {
                end(2, null);
            } catch (Thrown t) {
                thrown(t.code);
            }
        }
        return done;
    }

    private Frame latest() {
        return run.frames.get(run.frames.size() - 1);
    }

    private void end(int how, Object value) {
        run.ended = how;
        run.value = value;
        run.frames.clear();
    }

    private void thrown(int code) {
        while (!run.frames.isEmpty()) {
            Frame f = latest();
            for (Handler h : functions.get(f.function).handlers) {
                if (f.next >= h.from && f.next < h.to && (h.code == null || h.code == code)) {
                    f.stack.clear();
                    f.stack.add(code);
                    f.next = h.target;
                    return;
                }
            }
            run.frames.remove(f);
        }
        end(1, code);
    }

    private static Object take(Frame f) throws Broken {
        if (f.stack.isEmpty()) {
            throw new Broken();
        }
        return f.stack.remove(f.stack.size() - 1);
    }

    private static int takeInt(Frame f) throws Broken {
        if (take(f) instanceof Integer i) {
            return i;
        }
        throw new Broken();
    }

    private static int[] takeRow(Frame f) throws Broken {
        if (take(f) instanceof int[] row) {
            return row;
        }
        throw new Broken();
    }

    private static void put(Frame f, Object v) throws Broken {
        if (f.stack.size() == 16) {
            throw new Broken();
        }
        f.stack.add(v);
    }

    private static Object local(Frame f, int i) throws Broken {
        if (i < 0 || i >= f.locals.size()) {
            throw new Broken();
        }
        return f.locals.get(i);
    }

    private void instruction(Frame f) throws Broken, Thrown {
        if (!isFunction(f.function) || f.next < 0 || f.next >= functions.get(f.function).code.size()) {
            throw new Broken();
        }
        Instruction now = functions.get(f.function).code.get(f.next);
        int v = now.number;
        int next = f.next + 1;
        switch (now.operation) {
            case 0 -> put(f, v);
            case 1 -> take(f);
            case 2 -> {
                Object top = take(f);
                put(f, top);
                put(f, top);
            }
            case 3 -> {
                Object upper = take(f);
                Object lower = take(f);
                put(f, upper);
                put(f, lower);
            }
            case 4 -> put(f, local(f, v));
            case 5 -> {
                local(f, v);
                f.locals.set(v, take(f));
            }
            case 18 -> next = v;
            case 19 -> next = takeInt(f) != 0 ? v : next;
            case 20 -> next = takeInt(f) == 0 ? v : next;
            case 21 -> newRow(f);
            case 22 -> {
                int i = takeInt(f);
                int[] row = takeRow(f);
                put(f, row[inside(row, i)]);
            }
            case 23 -> {
                int w = takeInt(f);
                int i = takeInt(f);
                int[] row = takeRow(f);
                row[inside(row, i)] = w;
            }
            case 24 -> put(f, takeRow(f).length);
            case 25 -> {
                call(f, v);
                next = f.next;
            }
            case 26 -> host(f, v);
            case 27 -> {
                giveBack(f);
                return;
            }
            case 28 -> throw new Thrown(takeInt(f));
            default -> {
                int b = takeInt(f);
                int a = takeInt(f);
                put(f, calculate(now.operation, a, b));
            }
        }
        f.next = next;
    }

    private static int calculate(int operation, long a, long b) throws Thrown {
        if ((operation == 9 || operation == 10) && b == 0) {
            throw new Thrown(1);
        }
        long bits = b & 31;
        return (int) switch (operation) {
            case 6 -> a + b;
            case 7 -> a - b;
            case 8 -> a * b;
            case 9 -> a / b;
            case 10 -> a - a / b * b;
            case 11 -> a & b;
            case 12 -> a | b;
            case 13 -> a ^ b;
            case 14 -> a * (1L << bits);
            case 15 -> Math.floorDiv(a, 1L << bits);
            case 16 -> a < b ? 1 : 0;
            default -> a == b ? 1 : 0;
        };
    }

    private static int inside(int[] row, int i) throws Thrown {
        if (i < 0 || i >= row.length) {
            throw new Thrown(2);
        }
        return i;
    }

    private int ints() {
        int all = 0;
        for (int[] row : run.rows) {
            all += row.length;
        }
        return all;
    }

    private void newRow(Frame f) throws Broken, Thrown {
        int n = takeInt(f);
        if (n < 0 || n > 64 || run.rows.size() == 500 || ints() + n > 1024) {
            throw new Thrown(3);
        }
        run.rows.add(new int[n]);
        put(f, run.rows.get(run.rows.size() - 1));
    }

    private void call(Frame f, int function) throws Broken, Thrown {
        if (!isFunction(function)) {
            throw new Broken();
        }
        List<Object> params = new ArrayList<>();
        for (int i = 0; i < functions.get(function).params; i++) {
            params.add(0, take(f));
        }
        if (run.frames.size() == 20) {
            throw new Thrown(4);
        }
        run.frames.add(newFrame(function, params));
        run.most = Math.max(run.most, run.frames.size());
    }

    private void host(Frame f, int v) throws Broken {
        if (v < 0 || v > 15) {
            throw new Broken();
        }
        List<Integer> ints = new ArrayList<>();
        for (int i = 0; i < v % 4; i++) {
            ints.add(0, takeInt(f));
        }
        int n = run.outside.size();
        int answer = n < answers.size() ? answers.get(n) : 0;
        put(f, answer);
        run.outside.add(new Outside(v, ints, answer));
    }

    private void giveBack(Frame f) throws Broken {
        boolean gives = functions.get(f.function).result == 1;
        Object v = gives ? take(f) : null;
        if (run.frames.size() == 1) {
            end(0, v);
            return;
        }
        Frame caller = run.frames.get(run.frames.size() - 2);
        if (gives) {
            put(caller, v);
        }
        run.frames.remove(run.frames.size() - 1);
        caller.next++;
    }

    private Frame frameAt(int k) {
        return run == null || k < 0 || k >= run.frames.size() ? null : run.frames.get(run.frames.size() - 1 - k);
    }

    int frame(int k, int what) {
        Frame f = frameAt(k);
        if (f == null || what < 0 || what > 2) {
            return NONE;
        }
        return what == 0 ? f.function : what == 1 ? f.next : f.stack.size();
    }

    private Object valueAt(int k, boolean locals, int i) {
        Frame f = frameAt(k);
        if (f == null) {
            return null;
        }
        List<Object> all = locals ? f.locals : f.stack;
        return i < 0 || i >= all.size() ? null : all.get(i);
    }

    private static int shown(Object v) {
        return v instanceof int[] row ? row.length : v instanceof Integer i ? i : 0;
    }

    int value(int k, boolean locals, int i) {
        return shown(valueAt(k, locals, i));
    }

    int kind(int k, boolean locals, int i) {
        Object v = valueAt(k, locals, i);
        if (v instanceof int[] row) {
            for (int r = 0; r < run.rows.size(); r++) {
                if (run.rows.get(r) == row) {
                    return 1 + r;
                }
            }
        }
        return v == null ? NONE : 0;
    }

    int row(int row, int i) {
        if (run == null || row < 0 || row >= run.rows.size() || i < 0 || i >= run.rows.get(row).length) {
            return 0;
        }
        return run.rows.get(row)[i];
    }

    int trace(int i, int what) {
        if (run == null || i < 0 || i >= run.outside.size() || i >= 64) {
            return 0;
        }
        Outside o = run.outside.get(i);
        if (what >= 1 && what <= 3) {
            return what <= o.ints.size() ? o.ints.get(what - 1) : 0;
        }
        return what == 0 ? o.number : what == 4 ? o.answer : 0;
    }

    int look(int which) {
        if (which == 8 || which == 9) {
            return which == 8 ? functions.size() : answers.size();
        }
        if (which < 0 || which > 9 || (which == 0 && run == null)) {
            return NONE;
        }
        if (run == null) {
            return 0;
        }
        return switch (which) {
            case 0 -> run.ended;
            case 1 -> shown(run.value);
            case 2 -> run.steps;
            case 3 -> run.outside.size();
            case 4 -> run.frames.size();
            case 5 -> run.most;
            case 6 -> run.rows.size();
            default -> ints();
        };
    }
}
