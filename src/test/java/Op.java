/** The operations by their names, and short ways to write a program down. */
final class Op {
    static final int PUSH = 0, POP = 1, DUP = 2, SWAP = 3, LOAD = 4, STORE = 5;
    static final int ADD = 6, SUB = 7, MUL = 8, DIV = 9, REM = 10, AND = 11, OR = 12, XOR = 13;
    static final int SHL = 14, SHR = 15, LESS = 16, SAME = 17, JUMP = 18, IF = 19, IFNOT = 20;
    static final int NEW = 21, GET = 22, PUT = 23, SIZE = 24, CALL = 25, HOST = 26, RETURN = 27, THROW = 28;

    private Op() { }

    /** One more FUNCTION with these INSTRUCTIONS: operation, number, operation, number .. */
    static int function(StackRun x, int params, int locals, int result, int... code) {
        int f = x.function(params, locals, result);
        for (int i = 0; i + 1 < code.length; i += 2) {
            if (x.add(f, code[i], code[i + 1]) == StackRun.NONE) {
                throw new IllegalStateException("the test's own program is not taken");
            }
        }
        return f;
    }

    /** A new object whose FUNCTION 0, with two LOCALS and a RESULT, is this. */
    static StackRun program(int... code) {
        StackRun x = new StackRun();
        function(x, 0, 2, 1, code);
        return x;
    }

    /** The object of program(), begun and done until its end. */
    static StackRun done(int... code) {
        return finish(program(code));
    }

    /** n times PUSH, of first, first + 1 .. */
    static void pushes(StackRun x, int f, int n, int first) {
        for (int i = 0; i < n; i++) {
            x.add(f, PUSH, first + i);
        }
    }

    /** Begun, and n STEPS done. */
    static StackRun begun(StackRun x, int n) {
        x.begin();
        if (n > 0) {
            Check.same("steps that were asked for", x.go(n), n);
        }
        return x;
    }

    static StackRun finish(StackRun x) {
        x.begin();
        x.go(5000);
        return x;
    }

    /** How it ended, its VALUE and its STEPS. */
    static void ended(String what, StackRun x, int how, int value, int steps) {
        Check.same(what + ": how it ended", x.look(0), how);
        Check.same(what + ": its value", x.look(1), value);
        Check.same(what + ": its steps", x.look(2), steps);
        Check.same(what + ": functions being done", x.look(4), how == StackRun.NONE ? x.look(4) : 0);
    }
}
