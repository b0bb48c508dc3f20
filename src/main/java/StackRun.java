/** A machine of functions on a stack, done step by step; DOC.md says what each call answers. */
public final class StackRun {
    public static final int NONE = -1;

    private static final int MOST_STEPS_AT_ONCE = 5000;

    private final Program program;
    private final Answers answers;
    private final Run run;

    public StackRun() {
        program = new Program();
        answers = new Answers();
        run = new Run(program, answers);
    }

    public int function(int params, int locals, int result) {
        int number = program.open(params, locals, result);
        if (number != NONE) {
            run.drop();
        }
        return number;
    }

    public int add(int function, int operation, int number) {
        Function found = program.find(function);
        if (found == null) {
            return NONE;
        }
        int i = found.append(operation, number);
        if (i != NONE) {
            run.drop();
        }
        return i;
    }

    public boolean change(int function, int i, int operation, int number) {
        Function found = program.find(function);
        return found != null && dropRunIf(found.replace(i, operation, number));
    }

    public boolean handler(int function, int from, int to, int target) {
        Function found = program.find(function);
        return found != null && dropRunIf(found.guard(from, to, target));
    }

    public boolean only(int function, int code) {
        Function found = program.find(function);
        return found != null && dropRunIf(found.narrow(code));
    }

    public void clear() {
        program.empty();
        run.drop();
    }

    public int answer(int v) {
        return answers.give(v);
    }

    public void forget() {
        answers.empty();
    }

    public void begin() {
        run.start();
    }

    public int go(int n) {
        if (n < 1 || n > MOST_STEPS_AT_ONCE || !run.exists) {
            return NONE;
        }
        int done = 0;
        while (done < n && run.depth > 0) {
            run.step();
            done++;
        }
        return done;
    }

    public int frame(int k, int what) {
        Frame found = run.frameBelow(k);
        if (found == null) {
            return NONE;
        }
        switch (what) {
            case 0: return found.function;
            case 1: return found.next;
            case 2: return found.stack.size;
            default: return NONE;
        }
    }

    public int value(int k, boolean locals, int i) {
        Frame found = run.frameBelow(k);
        return found == null ? 0 : found.cells(locals).valueAt(i);
    }

    public int kind(int k, boolean locals, int i) {
        Frame found = run.frameBelow(k);
        return found == null ? NONE : found.cells(locals).kindAt(i);
    }

    public int row(int row, int i) {
        return run.rows.at(row, i);
    }

    public int trace(int i, int what) {
        return run.outside.at(i, what);
    }

    public int look(int which) {
        switch (which) {
            case 0: return run.ended;
            case 1: return run.result;
            case 2: return run.steps;
            case 3: return run.outside.count;
            case 4: return run.depth;
            case 5: return run.most;
            case 6: return run.rows.count;
            case 7: return run.rows.used;
            case 8: return program.count;
            case 9: return answers.count;
            default: return NONE;
        }
    }

    private boolean dropRunIf(boolean changed) {
        if (changed) {
            run.drop();
        }
        return changed;
    }

    /** The FUNCTIONS; their objects are made once and used again after clear(). */
    private static final class Program {
        private static final int MOST_FUNCTIONS = 8;

        private final Function[] functions;
        private int count;

        Program() {
            functions = new Function[MOST_FUNCTIONS];
            for (int i = 0; i < MOST_FUNCTIONS; i++) {
                functions[i] = new Function();
            }
            count = 0;
        }

        void empty() {
            count = 0;
        }

        int open(int params, int locals, int result) {
            if (count >= MOST_FUNCTIONS || !Function.mayHave(params, locals, result)) {
                return NONE;
            }
            functions[count].reset(params, locals, result);
            count++;
            return count - 1;
        }

        /** Null if there is no such FUNCTION. */
        Function find(int number) {
            return number >= 0 && number < count ? functions[number] : null;
        }
    }

    /** One FUNCTION: its INSTRUCTIONS and its HANDLERS. */
    private static final class Function {
        private static final int MOST_PARAMS = 4;
        private static final int MOST_LOCALS = 8;
        private static final int MOST_INSTRUCTIONS = 100;
        private static final int MOST_HANDLERS = 4;
        private static final int LAST_OPERATION = 28;

        private final int[] operations;
        private final int[] numbers;
        private final int[] froms;
        private final int[] tos;
        private final int[] targets;
        private final int[] codes;
        // Every int may be a code, so "for any code" needs a mark of its own.
        private final boolean[] narrowed;
        private int params;
        private int locals;
        private boolean givesValue;
        private int size;
        private int handlers;

        Function() {
            operations = new int[MOST_INSTRUCTIONS];
            numbers = new int[MOST_INSTRUCTIONS];
            froms = new int[MOST_HANDLERS];
            tos = new int[MOST_HANDLERS];
            targets = new int[MOST_HANDLERS];
            codes = new int[MOST_HANDLERS];
            narrowed = new boolean[MOST_HANDLERS];
        }

        static boolean mayHave(int params, int locals, int result) {
            return params >= 0 && params <= MOST_PARAMS
                    && locals >= params && locals <= MOST_LOCALS
                    && (result == 0 || result == 1);
        }

        void reset(int newParams, int newLocals, int result) {
            params = newParams;
            locals = newLocals;
            givesValue = result == 1;
            size = 0;
            handlers = 0;
        }

        boolean has(int i) {
            return i >= 0 && i < size;
        }

        int append(int operation, int number) {
            if (size >= MOST_INSTRUCTIONS || !isOperation(operation)) {
                return NONE;
            }
            operations[size] = operation;
            numbers[size] = number;
            size++;
            return size - 1;
        }

        boolean replace(int i, int operation, int number) {
            if (!has(i) || !isOperation(operation)) {
                return false;
            }
            operations[i] = operation;
            numbers[i] = number;
            return true;
        }

        boolean guard(int from, int to, int target) {
            if (handlers >= MOST_HANDLERS || !isPlace(from) || !isPlace(to) || !isPlace(target)) {
                return false;
            }
            froms[handlers] = from;
            tos[handlers] = to;
            targets[handlers] = target;
            narrowed[handlers] = false;
            handlers++;
            return true;
        }

        boolean narrow(int code) {
            if (handlers < 1) {
                return false;
            }
            codes[handlers - 1] = code;
            narrowed[handlers - 1] = true;
            return true;
        }

        /** Where a code goes on that INSTRUCTION i throws; NONE if no HANDLER takes it. */
        int targetFor(int i, int code) {
            for (int h = 0; h < handlers; h++) {
                boolean covers = froms[h] <= i && i < tos[h];
                if (covers && (!narrowed[h] || codes[h] == code)) {
                    return targets[h];
                }
            }
            return NONE;
        }

        private static boolean isOperation(int operation) {
            return operation >= 0 && operation <= LAST_OPERATION;
        }

        private static boolean isPlace(int i) {
            return i >= 0 && i <= MOST_INSTRUCTIONS;
        }
    }

    /** The ANSWERS of CALLS OUTSIDE, as they are given. */
    private static final class Answers {
        private static final int MOST_ANSWERS = 64;

        private final int[] given;
        private int count;

        Answers() {
            given = new int[MOST_ANSWERS];
            count = 0;
        }

        void empty() {
            count = 0;
        }

        int give(int v) {
            if (count >= MOST_ANSWERS) {
                return NONE;
            }
            given[count] = v;
            count++;
            return count;
        }

        int at(int i) {
            return i >= 0 && i < count ? given[i] : 0;
        }
    }

    /**
     * VALUES in order: a STACK or the LOCALS. A kind is 0 for an INT and 1 + its number for a ROW;
     * beside a ROW's kind stands how many INTS it has, which never changes.
     */
    private static final class Cells {
        private static final int INT = 0;

        private final int[] values;
        private final int[] kinds;
        private int size;

        Cells(int most) {
            int length = Math.max(0, most);
            values = new int[length];
            kinds = new int[length];
            size = 0;
        }

        void resetTo(int zeros) {
            size = Math.max(0, Math.min(zeros, values.length));
            for (int i = 0; i < size; i++) {
                values[i] = 0;
                kinds[i] = INT;
            }
        }

        boolean isFull() {
            return size >= values.length;
        }

        int valueAt(int i) {
            return i >= 0 && i < size ? values[i] : 0;
        }

        int kindAt(int i) {
            return i >= 0 && i < size ? kinds[i] : NONE;
        }

        /** The value that has so many above it. */
        int top(int above) {
            return valueAt(size - 1 - above);
        }

        boolean isInt(int above) {
            return kindAt(size - 1 - above) == INT;
        }

        boolean isRow(int above) {
            return kindAt(size - 1 - above) > INT;
        }

        boolean areInts(int n) {
            for (int above = 0; above < n; above++) {
                if (!isInt(above)) {
                    return false;
                }
            }
            return true;
        }

        int rowNumber(int above) {
            return kindAt(size - 1 - above) - 1;
        }

        void put(int v, int kindOfIt) {
            if (size < values.length) {
                values[size] = v;
                kinds[size] = kindOfIt;
                size++;
            }
        }

        void set(int i, int v, int kindOfIt) {
            if (i >= 0 && i < size) {
                values[i] = v;
                kinds[i] = kindOfIt;
            }
        }

        void take(int n) {
            size = n < size ? size - n : 0;
        }

        void replaceInts(int n, int v) {
            take(n);
            put(v, INT);
        }
    }

    /** A FUNCTION that is being done. */
    private static final class Frame {
        private static final int MOST_ON_STACK = 16;

        private final Cells stack;
        private final Cells ownLocals;
        private int function;
        // Stays at the CALL while what it called is being done: HANDLERS look at it there.
        private int next;

        Frame() {
            stack = new Cells(MOST_ON_STACK);
            ownLocals = new Cells(Function.MOST_LOCALS);
        }

        void reset(int number, int locals) {
            function = number;
            next = 0;
            stack.resetTo(0);
            ownLocals.resetTo(locals);
        }

        Cells cells(boolean locals) {
            return locals ? ownLocals : stack;
        }

        void goOnWithCode(int code, int target) {
            stack.resetTo(0);
            stack.put(code, Cells.INT);
            next = target;
        }
    }

    /** The ROWS of a RUN, one behind the other in one store. */
    private static final class Rows {
        private static final int MOST_ROWS = 500;
        private static final int MOST_IN_ONE = 64;
        private static final int MOST_IN_ALL = 1024;

        private final int[] store;
        private final int[] starts;
        private final int[] sizes;
        private int count;
        private int used;

        Rows() {
            store = new int[MOST_IN_ALL];
            starts = new int[MOST_ROWS];
            sizes = new int[MOST_ROWS];
            count = 0;
            used = 0;
        }

        void empty() {
            count = 0;
            used = 0;
        }

        boolean mayMake(int n) {
            return n >= 0 && n <= MOST_IN_ONE && count < MOST_ROWS && n <= MOST_IN_ALL - used;
        }

        /** The kind of the new ROW; NONE if it may not be made. */
        int make(int n) {
            if (!mayMake(n)) {
                return NONE;
            }
            starts[count] = used;
            sizes[count] = n;
            // The store still holds what an earlier RUN left there.
            for (int i = used; i < used + n && i < MOST_IN_ALL; i++) {
                store[i] = 0;
            }
            used += n;
            count++;
            return count;
        }

        boolean has(int number, int i) {
            return number >= 0 && number < count && i >= 0 && i < sizes[number];
        }

        int at(int number, int i) {
            return has(number, i) ? store[starts[number] + i] : 0;
        }

        void set(int number, int i, int w) {
            if (has(number, i)) {
                store[starts[number] + i] = w;
            }
        }
    }

    /** The CALLS OUTSIDE of a RUN: all are counted, the first ones kept. */
    private static final class Outside {
        private static final int MOST_KEPT = 64;
        private static final int WIDTH = 5;
        private static final int MOST_INTS = 3;

        private final int[] kept;
        private int count;

        Outside() {
            kept = new int[MOST_KEPT * WIDTH];
            count = 0;
        }

        void empty() {
            count = 0;
        }

        /** Its INTS are the upper n of the stack. */
        void note(int number, Cells stack, int n, int given) {
            if (count >= 0 && count < MOST_KEPT) {
                int start = count * WIDTH;
                kept[start] = number;
                for (int j = 1; j <= MOST_INTS; j++) {
                    kept[start + j] = j <= n ? stack.top(n - j) : 0;
                }
                kept[start + WIDTH - 1] = given;
            }
            count++;
        }

        int at(int i, int what) {
            boolean isKept = i >= 0 && i < count && i < MOST_KEPT;
            return isKept && what >= 0 && what < WIDTH ? kept[i * WIDTH + what] : 0;
        }
    }

    /** The RUN, if there is one; without one all that look() tells of it is as drop() leaves it. */
    private static final class Run {
        private static final int MOST_FRAMES = 20;

        private static final int PUSH = 0;
        private static final int POP = 1;
        private static final int DUP = 2;
        private static final int SWAP = 3;
        private static final int LOAD = 4;
        private static final int STORE = 5;
        private static final int ADD = 6;
        private static final int SUB = 7;
        private static final int MUL = 8;
        private static final int DIV = 9;
        private static final int REM = 10;
        private static final int AND = 11;
        private static final int OR = 12;
        private static final int XOR = 13;
        private static final int SHL = 14;
        private static final int SHR = 15;
        private static final int LESS = 16;
        private static final int SAME = 17;
        private static final int JUMP = 18;
        private static final int IF = 19;
        private static final int IFNOT = 20;
        private static final int NEW = 21;
        private static final int GET = 22;
        private static final int PUT = 23;
        private static final int SIZE = 24;
        private static final int CALL = 25;
        private static final int HOST = 26;
        private static final int RETURN = 27;
        private static final int THROW = 28;

        private static final int CODE_DIVISOR = 1;
        private static final int CODE_PLACE = 2;
        private static final int CODE_ROW = 3;
        private static final int CODE_CALL = 4;

        private static final int ENDED_BY_RETURN = 0;
        private static final int ENDED_BY_CODE = 1;
        private static final int ENDED_BROKEN = 2;

        // What an INSTRUCTION leaves to be done: go on behind it, nothing, end the RUN, throw a code.
        private static final int ON = 0;
        private static final int AWAY = 1;
        private static final int BROKEN = 2;
        private static final int THROWN = 3;

        private static final int LAST_HOST = 15;

        private final Program program;
        private final Answers answers;
        private final Frame[] frames;
        private final Rows rows;
        private final Outside outside;
        private boolean exists;
        private int depth;
        private int most;
        private int steps;
        private int ended;
        private int result;
        private int thrown;

        Run(Program program, Answers answers) {
            this.program = program;
            this.answers = answers;
            frames = new Frame[MOST_FRAMES];
            for (int i = 0; i < MOST_FRAMES; i++) {
                frames[i] = new Frame();
            }
            rows = new Rows();
            outside = new Outside();
            ended = NONE;
        }

        void drop() {
            exists = false;
            depth = 0;
            most = 0;
            steps = 0;
            ended = NONE;
            result = 0;
            thrown = 0;
            rows.empty();
            outside.empty();
        }

        void start() {
            drop();
            exists = true;
            enter(0);
        }

        /** Null if no FUNCTION is being done there. */
        Frame frameBelow(int k) {
            return k >= 0 && k < depth && depth <= MOST_FRAMES ? frames[depth - 1 - k] : null;
        }

        private void enter(int number) {
            if (depth < 0 || depth >= MOST_FRAMES) {
                return;
            }
            Function begun = program.find(number);
            frames[depth].reset(number, begun == null ? 0 : begun.locals);
            depth++;
            most = Math.max(most, depth);
        }

        private void end(int how, int v) {
            ended = how;
            result = v;
            depth = 0;
        }

        void step() {
            Frame latest = frameBelow(0);
            if (latest == null) {
                return;
            }
            steps++;
            int outcome = perform(latest);
            if (outcome == ON) {
                latest.next++;
            } else if (outcome == BROKEN) {
                end(ENDED_BROKEN, 0);
            } else if (outcome == THROWN) {
                unwind();
            }
        }

        private int perform(Frame latest) {
            Function done = program.find(latest.function);
            int i = latest.next;
            if (done == null || !done.has(i)) {
                return BROKEN;
            }
            Cells stack = latest.stack;
            int v = done.numbers[i];
            int operation = done.operations[i];
            switch (operation) {
                case PUSH: return pushInt(stack, v);
                case POP: return pop(stack);
                case DUP: return copy(stack, stack.size - 1, stack);
                case SWAP: return swap(stack);
                case LOAD: return copy(latest.ownLocals, v, stack);
                case STORE: return store(stack, latest.ownLocals, v);
                case JUMP: return jump(latest, v);
                case IF: return jumpIf(latest, v, true);
                case IFNOT: return jumpIf(latest, v, false);
                case NEW: return makeRow(stack);
                case GET: return getFromRow(stack);
                case PUT: return putIntoRow(stack);
                case SIZE: return sizeOfRow(stack);
                case CALL: return callFunction(stack, v);
                case HOST: return callOutside(stack, v);
                case RETURN: return giveBack(stack, done.givesValue);
                case THROW: return throwTop(stack);
                default: return calculate(stack, operation);
            }
        }

        private static int pushInt(Cells stack, int v) {
            if (stack.isFull()) {
                return BROKEN;
            }
            stack.put(v, Cells.INT);
            return ON;
        }

        private static int pop(Cells stack) {
            if (stack.size < 1) {
                return BROKEN;
            }
            stack.take(1);
            return ON;
        }

        private static int copy(Cells from, int i, Cells stack) {
            int kindOfIt = from.kindAt(i);
            if (kindOfIt == NONE || stack.isFull()) {
                return BROKEN;
            }
            stack.put(from.valueAt(i), kindOfIt);
            return ON;
        }

        private static int swap(Cells stack) {
            int upper = stack.size - 1;
            int lower = stack.size - 2;
            if (lower < 0) {
                return BROKEN;
            }
            int v = stack.valueAt(upper);
            int kindOfIt = stack.kindAt(upper);
            stack.set(upper, stack.valueAt(lower), stack.kindAt(lower));
            stack.set(lower, v, kindOfIt);
            return ON;
        }

        private static int store(Cells stack, Cells locals, int i) {
            if (stack.size < 1 || locals.kindAt(i) == NONE) {
                return BROKEN;
            }
            locals.set(i, stack.top(0), stack.kindAt(stack.size - 1));
            stack.take(1);
            return ON;
        }

        private static int jump(Frame latest, int target) {
            latest.next = target;
            return AWAY;
        }

        private static int jumpIf(Frame latest, int target, boolean wanted) {
            if (!latest.stack.isInt(0)) {
                return BROKEN;
            }
            boolean found = latest.stack.top(0) != 0;
            latest.stack.take(1);
            return found == wanted ? jump(latest, target) : ON;
        }

        private int calculate(Cells stack, int operation) {
            if (!stack.areInts(2)) {
                return BROKEN;
            }
            int b = stack.top(0);
            int a = stack.top(1);
            if (b == 0 && (operation == DIV || operation == REM)) {
                return raise(CODE_DIVISOR);
            }
            stack.replaceInts(2, combine(operation, a, b));
            return ON;
        }

        private static int combine(int operation, int a, int b) {
            switch (operation) {
                case ADD: return a + b;
                case SUB: return a - b;
                case MUL: return a * b;
                case DIV: return b == 0 ? 0 : a / b;
                case REM: return b == 0 ? 0 : a % b;
                case AND: return a & b;
                case OR: return a | b;
                case XOR: return a ^ b;
                case SHL: return a << b;
                case SHR: return a >> b;
                case LESS: return a < b ? 1 : 0;
                case SAME: return a == b ? 1 : 0;
                default: return 0;
            }
        }

        private int makeRow(Cells stack) {
            if (!stack.isInt(0)) {
                return BROKEN;
            }
            int n = stack.top(0);
            int kindOfIt = rows.make(n);
            if (kindOfIt == NONE) {
                return raise(CODE_ROW);
            }
            stack.take(1);
            stack.put(n, kindOfIt);
            return ON;
        }

        private int getFromRow(Cells stack) {
            if (!stack.isInt(0) || !stack.isRow(1)) {
                return BROKEN;
            }
            int i = stack.top(0);
            int number = stack.rowNumber(1);
            if (!rows.has(number, i)) {
                return raise(CODE_PLACE);
            }
            stack.replaceInts(2, rows.at(number, i));
            return ON;
        }

        private int putIntoRow(Cells stack) {
            if (!stack.areInts(2) || !stack.isRow(2)) {
                return BROKEN;
            }
            int i = stack.top(1);
            int number = stack.rowNumber(2);
            if (!rows.has(number, i)) {
                return raise(CODE_PLACE);
            }
            rows.set(number, i, stack.top(0));
            stack.take(3);
            return ON;
        }

        private static int sizeOfRow(Cells stack) {
            if (!stack.isRow(0)) {
                return BROKEN;
            }
            stack.replaceInts(1, stack.top(0));
            return ON;
        }

        private int callFunction(Cells stack, int number) {
            Function called = program.find(number);
            if (called == null || stack.size < called.params) {
                return BROKEN;
            }
            if (depth >= MOST_FRAMES) {
                return raise(CODE_CALL);
            }
            enter(number);
            Frame begun = frameBelow(0);
            int first = stack.size - called.params;
            for (int i = 0; begun != null && i < called.params; i++) {
                begun.ownLocals.set(i, stack.valueAt(first + i), stack.kindAt(first + i));
            }
            stack.take(called.params);
            return AWAY;
        }

        private int callOutside(Cells stack, int number) {
            if (number < 0 || number > LAST_HOST) {
                return BROKEN;
            }
            int n = number % 4;
            if (!stack.areInts(n) || (n == 0 && stack.isFull())) {
                return BROKEN;
            }
            int given = answers.at(outside.count);
            outside.note(number, stack, n, given);
            stack.replaceInts(n, given);
            return ON;
        }

        private int giveBack(Cells stack, boolean givesValue) {
            if (givesValue && stack.size < 1) {
                return BROKEN;
            }
            // FUNCTION 0 may be called too: only the one that no CALL began ends the RUN.
            Frame caller = frameBelow(1);
            if (caller == null) {
                end(ENDED_BY_RETURN, givesValue ? stack.top(0) : 0);
                return AWAY;
            }
            if (givesValue) {
                if (caller.stack.isFull()) {
                    return BROKEN;
                }
                caller.stack.put(stack.top(0), stack.kindAt(stack.size - 1));
            }
            depth--;
            caller.next++;
            return AWAY;
        }

        private int throwTop(Cells stack) {
            return stack.isInt(0) ? raise(stack.top(0)) : BROKEN;
        }

        private int raise(int code) {
            thrown = code;
            return THROWN;
        }

        private void unwind() {
            for (; depth > 0; depth--) {
                Frame latest = frameBelow(0);
                Function done = latest == null ? null : program.find(latest.function);
                int target = done == null ? NONE : done.targetFor(latest.next, thrown);
                if (target != NONE) {
                    latest.goOnWithCode(thrown, target);
                    return;
                }
            }
            end(ENDED_BY_CODE, thrown);
        }
    }
}
