/** The edges of what is BROKEN, one method for each piece of the document that names one. */
public final class BrokenEdgeTest {
    private static final int NONE = StackRun.NONE;
    private static final int MIN = Integer.MIN_VALUE;
    private static final int MAX = Integer.MAX_VALUE;

    // What each operation takes, from below: i an INT, r a ROW, v any VALUE; and how many it puts.
    private static final String[] TAKES = {
        "", "v", "v", "vv", "", "v", "ii", "ii", "ii", "ii", "ii", "ii", "ii", "ii", "ii", "ii", "ii", "ii",
        "", "i", "i", "i", "ri", "rii", "r", "vv", "iii", "v", "i",
    };
    private static final int[] PUTS = {
        1, 0, 2, 2, 1, 0, 1, 1, 1, 1, 1, 1, 1, 1, 1, 1, 1, 1, 0, 0, 0, 1, 1, 0, 1, 0, 1, 0, 0,
    };
    private static final int LOCALS = 2;

    public static void main(String[] args) {
        instructionThatIsNotThere();
        instructionOfItsFunction();
        noFunctionZero();
        takenIsThereAndOfThatKind();
        seventeenth();
        seventeenthOfHost();
        seventeenthOfReturn();
        noSeventeenthOfTheEnd();
        localThatThereIsNot();
        functionThatThereIsNot();
        hostThatIsNone();
        endsTwo();
        stepAllTheSame();
        nothingIsDoneWhenEnded();
        aheadOfDivisor();
        aheadOfPlace();
        aheadOfRow();
        aheadOfCall();
        notForHandlers();
        Check.finish();
    }

    private static void broken(String what, int steps, int... code) {
        Op.ended(what, Op.done(code), 2, 0, steps);
    }

    private static void instructionThatIsNotThere() {
        Check.sentence("an INSTRUCTION that is not there (its number is none of its FUNCTION)");
        for (int size : new int[] {1, 2, 99, 100}) {
            for (int v : new int[] {MIN, -1, 0, size - 1, size, size + 1, 99, 100, MAX}) {
                StackRun x = new StackRun();
                x.function(0, 0, 0);
                for (int i = 0; i < size; i++) {
                    x.add(0, Op.JUMP, v);
                }
                x.begin();
                boolean there = v >= 0 && v < size;
                Check.same(v + " of " + size + ": steps", x.go(3), there ? 3 : 2);
                Check.same(v + " of " + size + ": ended", x.look(0), there ? NONE : 2);
            }
        }
        broken("behind the last", 2, Op.PUSH, 1);
        broken("of none", 1);
    }

    /** FUNCTION 1 has more INSTRUCTIONS than FUNCTION 0, and the other way round. */
    private static void instructionOfItsFunction() {
        Check.sentence("its number is none of its FUNCTION");
        StackRun x = Op.program(Op.JUMP, 1, Op.JUMP, 2);
        Op.function(x, 0, 0, 0, Op.PUSH, 1, Op.PUSH, 1, Op.PUSH, 1, Op.PUSH, 1);
        Op.ended("one of another function", Op.finish(x), 2, 0, 3);
        x = Op.program(Op.JUMP, 2, Op.PUSH, 1, Op.CALL, 1, Op.PUSH, 1);
        Op.function(x, 0, 0, 0, Op.JUMP, 1);
        Op.ended("one of the caller", Op.finish(x), 2, 0, 4);
    }

    private static void noFunctionZero() {
        Check.sentence("or there is no FUNCTION 0");
        StackRun x = new StackRun();
        Op.ended("never", Op.finish(x), 2, 0, 1);
        Op.function(x, 0, 0, 0, Op.RETURN, 0);
        Op.ended("there is one", Op.finish(x), 0, 0, 1);
        x.clear();
        Op.ended("not any more", Op.finish(x), 2, 0, 1);
        Check.same("it was being done", x.look(5), 1);
    }

    /** All STACKS of up to three VALUES, INTS and ROWS, against what each operation takes. */
    private static void takenIsThereAndOfThatKind() {
        Check.sentence("for which what it takes is not there, or not of that kind");
        for (int operation = 0; operation < TAKES.length; operation++) {
            for (int size = 0; size <= 3; size++) {
                for (int rows = 0; rows < 1 << size; rows++) {
                    taken(operation, size, rows);
                }
            }
        }
    }

    private static void taken(int operation, int size, int rows) {
        StackRun x = new StackRun();
        x.function(0, LOCALS, 1);
        int steps = 1;
        for (int i = 0; i < size; i++) {
            boolean row = (rows >> i & 1) != 0;
            x.add(0, Op.PUSH, row ? 3 : 1);
            steps++;
            if (row) {
                x.add(0, Op.NEW, 0);
                steps++;
            }
        }
        int v = operation == Op.CALL || operation == Op.LOAD || operation == Op.STORE ? 1
                : operation == Op.HOST ? 15 : 0;
        x.add(0, operation, v);
        x.function(2, 2, 0);
        Op.begun(x, steps);
        String name = "operation " + operation + " on " + size + " with rows " + rows;
        boolean right = isThere(TAKES[operation], size, rows);
        int due = !right ? 2 : operation == Op.RETURN ? 0 : operation == Op.THROW ? 1 : NONE;
        Check.same(name, x.look(0), due);
        if (due == NONE) {
            int k = operation == Op.CALL ? 1 : 0;
            Check.same(name + ": left", x.frame(k, 2), size - TAKES[operation].length() + PUTS[operation]);
        }
    }

    private static boolean isThere(String takes, int size, int rows) {
        boolean right = size >= takes.length();
        for (int i = 0; i < takes.length() && right; i++) {
            boolean row = (rows >> size - takes.length() + i & 1) != 0;
            char kind = takes.charAt(i);
            right = kind == 'v' || row == (kind == 'r');
        }
        return right;
    }

    /** FUNCTION 0 puts n on its STACK, the top a ROW if that is asked for, then does this. */
    private static StackRun on(int n, boolean rowOnTop, int operation, int v) {
        StackRun x = new StackRun();
        x.function(0, LOCALS, 1);
        Op.pushes(x, 0, n, 1);
        if (rowOnTop) {
            x.add(0, Op.NEW, 0);
        }
        x.add(0, operation, v);
        x.function(0, 0, 0);
        return Op.begun(x, n + (rowOnTop ? 2 : 1));
    }

    private static void seventeenth() {
        Check.sentence("or that would put a 17th VALUE on a STACK");
        for (int n = 14; n <= 16; n++) {
            for (int operation : new int[] {Op.PUSH, Op.DUP, Op.LOAD}) {
                StackRun x = on(n, false, operation, 1);
                Check.same(operation + " on " + n, x.look(0), n == 16 ? 2 : NONE);
                Check.same(operation + " on " + n, x.frame(0, 2), n == 16 ? NONE : n + 1);
                Check.same(operation + " on " + n + ": its place", x.kind(0, false, n), n == 16 ? NONE : 0);
            }
            Check.same("DUP of a row on " + n, on(n, true, Op.DUP, 0).look(0), n == 16 ? 2 : NONE);
            for (int operation = Op.ADD; operation <= Op.SAME; operation++) {
                Check.same(operation + " puts one for two on " + n, on(n, false, operation, 0).frame(0, 2), n - 1);
            }
            for (int operation : new int[] {Op.SWAP, Op.JUMP, Op.NEW, Op.CALL}) {
                StackRun x = on(n, false, operation, operation == Op.CALL ? 1 : 0);
                Check.same(operation + " on " + n, x.frame(operation == Op.CALL ? 1 : 0, 2), n);
            }
            Check.same("SIZE on " + n, on(n, true, Op.SIZE, 0).frame(0, 2), n);
        }
    }

    private static void seventeenthOfHost() {
        Check.sentence("that would put a 17th VALUE on a STACK: HOST");
        for (int n = 14; n <= 16; n++) {
            for (int v = 0; v < 16; v++) {
                StackRun x = on(n, false, Op.HOST, v);
                boolean right = n - v % 4 < 16;
                Check.same("HOST " + v + " on " + n, x.look(0), right ? NONE : 2);
                Check.same("HOST " + v + " on " + n, x.frame(0, 2), right ? n - v % 4 + 1 : NONE);
                Check.same("HOST " + v + " on " + n + ": calls outside", x.look(3), right ? 1 : 0);
            }
        }
    }

    /** FUNCTION 0 has n on its STACK, PARAMS among them, when it calls FUNCTION 1. */
    private static void seventeenthOfReturn() {
        Check.sentence("(of RETURN on that of the CALL)");
        for (int n = 14; n <= 16; n++) {
            for (int params = 0; params <= 1; params++) {
                for (int result = 0; result <= 1; result++) {
                    StackRun x = new StackRun();
                    x.function(0, 0, 0);
                    Op.pushes(x, 0, n, 1);
                    x.add(0, Op.CALL, 1);
                    Op.function(x, params, 1, result, Op.LOAD, 0, Op.RETURN, 0);
                    Op.begun(x, n + 2);
                    Check.same(n + " " + params + ": the call is right", x.look(0), NONE);
                    x.go(1);
                    boolean right = n - params + result <= 16;
                    String name = n + " less " + params + " and " + result;
                    Check.same(name, x.look(0), right ? NONE : 2);
                    Check.same(name, x.frame(0, 2), right ? n - params + result : NONE);
                    Check.same(name + ": steps", x.look(2), n + 3);
                }
            }
        }
    }

    private static void noSeventeenthOfTheEnd() {
        Check.sentence("(of RETURN on that of the CALL)");
        StackRun x = new StackRun();
        x.function(0, 0, 1);
        Op.pushes(x, 0, 16, 1);
        x.add(0, Op.RETURN, 0);
        Op.ended("RETURN of FUNCTION 0 from a full stack", Op.finish(x), 0, 16, 17);
    }

    private static void localThatThereIsNot() {
        Check.sentence("LOAD and STORE of a LOCAL that there is not");
        for (int locals = 0; locals <= 8; locals++) {
            for (int v : new int[] {MIN, -1, 0, 1, 2, 3, 4, 5, 6, 7, 8, 9, 16, MAX}) {
                StackRun x = new StackRun();
                Op.function(x, 0, locals, 0, Op.LOAD, v);
                int due = v >= 0 && v < locals ? NONE : 2;
                Check.same("LOAD " + v + " of " + locals, Op.begun(x, 1).look(0), due);
                x.change(0, 0, Op.PUSH, 1);
                x.add(0, Op.STORE, v);
                Check.same("STORE " + v + " of " + locals, Op.begun(x, 2).look(0), due);
            }
        }
        // The caller has eight, the called one has two: those are what counts, and back again.
        StackRun x = new StackRun();
        Op.function(x, 0, 8, 0, Op.CALL, 1, Op.LOAD, 7, Op.RETURN, 0);
        Op.function(x, 0, 2, 0, Op.LOAD, 1, Op.RETURN, 0);
        Op.ended("each has its own", Op.finish(x), 0, 0, 5);
        x.change(1, 0, Op.LOAD, 2);
        Op.ended("one of the caller", Op.finish(x), 2, 0, 2);
    }

    private static void functionThatThereIsNot() {
        Check.sentence("CALL of a FUNCTION that there is not");
        for (int functions = 1; functions <= 8; functions++) {
            for (int v : new int[] {MIN, -1, 0, 1, 2, 3, 4, 5, 6, 7, 8, 9, MAX}) {
                StackRun x = Op.program(Op.CALL, v);
                for (int f = 1; f < functions; f++) {
                    x.function(0, 0, 0);
                }
                Op.begun(x, 1);
                boolean there = v >= 0 && v < functions;
                Check.same("CALL " + v + " of " + functions, x.look(0), there ? NONE : 2);
                Check.same("CALL " + v + " of " + functions, x.frame(0, 0), there ? v : NONE);
                Check.same("CALL " + v + " of " + functions + ": the most", x.look(5), there ? 2 : 1);
            }
        }
    }

    private static void hostThatIsNone() {
        Check.sentence("HOST with v that is none");
        for (int v : new int[] {MIN, MIN + 4, -16, -4, -3, -1, 16, 17, 20, 32, 256, MAX}) {
            StackRun x = Op.done(Op.PUSH, 1, Op.PUSH, 2, Op.PUSH, 3, Op.HOST, v, Op.RETURN, 0);
            Op.ended("HOST " + v, x, 2, 0, 4);
            Check.same("no call outside", x.look(3), 0);
            Check.same("nothing is kept", x.trace(0, 0), 0);
        }
        Op.ended("HOST 0", Op.done(Op.PUSH, 1, Op.HOST, 0, Op.RETURN, 0), 0, 0, 3);
        Op.ended("HOST 15", Op.done(Op.PUSH, 1, Op.DUP, 0, Op.DUP, 0, Op.HOST, 15, Op.RETURN, 0), 0, 0, 5);
    }

    private static void endsTwo() {
        Check.sentence("The RUN ENDS 2");
        StackRun x = Op.program(Op.PUSH, 7, Op.PUSH, 8, Op.POP, 0, Op.SWAP, 0, Op.RETURN, 0);
        x.begin();
        Check.same("nothing behind it is done", x.go(100), 4);
        Op.ended("with no value", x, 2, 0, 4);
        Check.same("nothing later", x.go(100), 0);
        Op.ended("as it was", x, 2, 0, 4);
    }

    private static void stepAllTheSame() {
        Check.sentence("it is a STEP all the same");
        StackRun x = Op.program(Op.POP, 0);
        x.begin();
        Check.same("go answers it", x.go(1), 1);
        Check.same("it is counted", x.look(2), 1);
        x = new StackRun();
        x.begin();
        Check.same("where no function is", x.go(5000), 1);
        Check.same("it is counted", x.look(2), 1);
    }

    private static void nothingIsDoneWhenEnded() {
        Check.sentence("(when a RUN has ENDED, no FUNCTION is being done)");
        int[] last = {Op.RETURN, Op.THROW, Op.SIZE};
        for (int how = 0; how < 3; how++) {
            StackRun x = Op.done(Op.PUSH, 9, Op.STORE, 0, Op.PUSH, 9, last[how], 0);
            Check.same("how", x.look(0), how);
            Check.same("being done", x.look(4), 0);
            Check.same("the most that were", x.look(5), 1);
            for (int what = 0; what < 3; what++) {
                Check.same("frame", x.frame(0, what), NONE);
            }
            Check.same("value", x.value(0, false, 0), 0);
            Check.same("local", x.value(0, true, 0), 0);
            Check.same("kind", x.kind(0, false, 0), NONE);
            Check.same("kind of a local", x.kind(0, true, 0), NONE);
        }
    }

    private static void aheadOfDivisor() {
        Check.sentence("(All this is looked at ahead of what is THROWN.) 1");
        for (int operation = Op.DIV; operation <= Op.REM; operation++) {
            broken("0 alone", 2, Op.PUSH, 0, operation, 0);
            broken("a row by 0", 4, Op.PUSH, 1, Op.NEW, 0, Op.PUSH, 0, operation, 0);
            broken("an int by a row of none", 4, Op.PUSH, 0, Op.PUSH, 0, Op.NEW, 0, operation, 0);
        }
    }

    private static void aheadOfPlace() {
        Check.sentence("(All this is looked at ahead of what is THROWN.) 2");
        broken("GET from an int", 3, Op.PUSH, 1, Op.PUSH, -1, Op.GET, 0);
        broken("GET from nothing", 2, Op.PUSH, -1, Op.GET, 0);
        broken("PUT into an int", 4, Op.PUSH, 1, Op.PUSH, -1, Op.PUSH, 5, Op.PUT, 0);
        broken("PUT into nothing", 3, Op.PUSH, -1, Op.PUSH, 5, Op.PUT, 0);
        broken("PUT of a row", 6, Op.PUSH, 1, Op.NEW, 0, Op.PUSH, -1, Op.PUSH, 1, Op.NEW, 0, Op.PUT, 0);
        StackRun x = Op.done(Op.PUSH, 1, Op.NEW, 0, Op.PUSH, 0, Op.PUSH, 1, Op.NEW, 0, Op.PUT, 0);
        Op.ended("PUT of a row where there is a place", x, 2, 0, 6);
        Check.same("nothing is put", x.row(0, 0), 0);
    }

    /** Of a ROW as n it could be told how many INTS it has, here as many as there can be no more of. */
    private static void aheadOfRow() {
        Check.sentence("(All this is looked at ahead of what is THROWN.) 3");
        StackRun x = Op.program(Op.PUSH, 64, Op.NEW, 0, Op.STORE, 0, Op.JUMP, 0, Op.LOAD, 0, Op.NEW, 0);
        x.handler(0, 0, 4, 4);
        Op.ended("NEW of a row", Op.finish(x), 2, 0, 16 * 4 + 2 + 2);
        x.change(0, 4, Op.POP, 0);
        Op.ended("NEW of nothing", Op.finish(x), 2, 0, 16 * 4 + 2 + 2);
        Check.same("ints", x.look(7), 1024);
    }

    private static void aheadOfCall() {
        Check.sentence("(All this is looked at ahead of what is THROWN.) 4");
        int[] tried = {0, 1, 2, 3, 7, -1, MIN, MAX};
        for (int v : tried) {
            StackRun x = Op.program(Op.CALL, 1, Op.RETURN, 0);
            // FUNCTION 1 calls itself until twenty are being done; then that throws, and it goes on at 1.
            Op.function(x, 0, 0, 0, Op.CALL, 1, Op.POP, 0, Op.CALL, v);
            x.handler(1, 0, 1, 1);
            x.function(1, 1, 0);
            Op.begun(x, 21);
            Check.same("twenty are being done", x.look(4), 20);
            x.go(1);
            boolean right = v == 0 || v == 1;
            Check.same("CALL " + v + " then", x.look(0), right ? NONE : 2);
            Check.same("CALL " + v + " then: thrown, and taken below", x.look(4), right ? 19 : 0);
            x.change(1, 1, Op.JUMP, 2);
            Op.begun(x, 22);
            Check.same("CALL " + v + " with a param", x.look(0), right || v == 2 ? NONE : 2);
        }
    }

    private static void notForHandlers() {
        Check.sentence("The RUN ENDS 2");
        for (int deep = 0; deep <= 2; deep++) {
            StackRun x = new StackRun();
            for (int f = 0; f <= deep; f++) {
                Op.function(x, 0, 0, 0, f < deep ? Op.CALL : Op.POP, f + 1, Op.PUSH, 1, Op.RETURN, 0);
                x.handler(f, 0, 100, 1);
                x.handler(f, 0, 100, 1);
                x.only(f, 2);
            }
            Op.ended(deep + " deep", Op.finish(x), 2, 0, deep + 1);
        }
    }
}
