/** What each operation does when all that it takes is there. */
public final class OperationTest {
    private static final int MIN = Integer.MIN_VALUE;
    private static final int MAX = Integer.MAX_VALUE;

    public static void main(String[] args) {
        moving();
        locals();
        arithmetic();
        bits();
        comparing();
        jumps();
        rows();
        rowsAreShared();
        calls();
        callsOutside();
        returns();
        numbersThatNothingIsSaidOf();
        Check.finish();
    }

    private static void moving() {
        Op.ended("PUSH", Op.done(Op.PUSH, MIN, Op.RETURN, 0), 0, MIN, 2);
        Op.ended("POP", Op.done(Op.PUSH, 1, Op.PUSH, 2, Op.POP, 0, Op.RETURN, 0), 0, 1, 4);
        Op.ended("DUP", Op.done(Op.PUSH, 6, Op.DUP, 0, Op.MUL, 0, Op.RETURN, 0), 0, 36, 4);
        Op.ended("SWAP", Op.done(Op.PUSH, 9, Op.PUSH, 4, Op.SWAP, 0, Op.SUB, 0, Op.RETURN, 0), 0, -5, 5);
        StackRun x = Op.program(Op.PUSH, 2, Op.NEW, 0, Op.PUSH, 7, Op.SWAP, 0, Op.DUP, 0, Op.POP, 0);
        x.begin();
        x.go(5);
        Check.same("SWAP of a row: below", x.kind(0, false, 0), 0);
        Check.same("SWAP of a row: below", x.value(0, false, 0), 7);
        Check.same("SWAP of a row: above", x.kind(0, false, 1), 1);
        Check.same("DUP of a row", x.kind(0, false, 2), 1);
        Check.same("DUP of a row", x.value(0, false, 2), 2);
        x.go(1);
        Check.same("POP of a row", x.frame(0, 2), 2);
    }

    private static void locals() {
        StackRun x = Op.program(Op.LOAD, 1, Op.PUSH, 5, Op.STORE, 1, Op.PUSH, 3, Op.NEW, 0, Op.STORE, 0,
                Op.LOAD, 1, Op.LOAD, 0);
        x.begin();
        x.go(8);
        Check.same("a local is 0 at first", x.value(0, false, 0), 0);
        Check.same("LOAD of an int", x.value(0, false, 1), 5);
        Check.same("LOAD of an int", x.kind(0, false, 1), 0);
        Check.same("LOAD of a row", x.kind(0, false, 2), 1);
        Check.same("STORE of an int", x.value(0, true, 1), 5);
        Check.same("STORE of a row", x.kind(0, true, 0), 1);
        Check.same("STORE of a row", x.value(0, true, 0), 3);
        Check.same("STORE takes it", x.frame(0, 2), 3);
    }

    private static void binary(String name, int operation, int a, int b, int due) {
        Op.ended(name + " of " + a + " and " + b,
                Op.done(Op.PUSH, a, Op.PUSH, b, operation, 0, Op.RETURN, 0), 0, due, 4);
    }

    private static void arithmetic() {
        binary("ADD", Op.ADD, 2, 3, 5);
        binary("ADD", Op.ADD, MAX, 1, MIN);
        binary("SUB", Op.SUB, 2, 3, -1);
        binary("SUB", Op.SUB, MIN, 1, MAX);
        binary("MUL", Op.MUL, -4, 3, -12);
        binary("MUL", Op.MUL, 65536, 65536, 0);
        binary("MUL", Op.MUL, MIN, -1, MIN);
        binary("MUL", Op.MUL, 123456789, 987654321, -67153019);
        binary("DIV", Op.DIV, 7, 2, 3);
        binary("DIV", Op.DIV, -7, 2, -3);
        binary("DIV", Op.DIV, 7, -2, -3);
        binary("DIV", Op.DIV, -7, -2, 3);
        binary("DIV", Op.DIV, MIN, -1, MIN);
        binary("DIV", Op.DIV, 0, 5, 0);
        binary("REM", Op.REM, 7, 2, 1);
        binary("REM", Op.REM, -7, 2, -1);
        binary("REM", Op.REM, 7, -2, 1);
        binary("REM", Op.REM, -7, -2, -1);
        binary("REM", Op.REM, MIN, -1, 0);
    }

    private static void bits() {
        binary("AND", Op.AND, 12, 10, 8);
        binary("OR", Op.OR, 12, 10, 14);
        binary("XOR", Op.XOR, 12, 10, 6);
        binary("XOR", Op.XOR, -1, 0, -1);
        binary("SHL", Op.SHL, 1, 4, 16);
        binary("SHL", Op.SHL, 1, 31, MIN);
        binary("SHL", Op.SHL, 1, 33, 2);
        binary("SHL", Op.SHL, 1, -1, MIN);
        binary("SHR", Op.SHR, 16, 4, 1);
        binary("SHR", Op.SHR, -16, 2, -4);
        binary("SHR", Op.SHR, MIN, 31, -1);
        binary("SHR", Op.SHR, -16, 32, -16);
        binary("SHR", Op.SHR, MAX, -2, 1);
    }

    private static void comparing() {
        binary("LESS", Op.LESS, 1, 2, 1);
        binary("LESS", Op.LESS, 2, 2, 0);
        binary("LESS", Op.LESS, 3, 2, 0);
        binary("LESS", Op.LESS, MIN, MAX, 1);
        binary("LESS", Op.LESS, MAX, MIN, 0);
        binary("SAME", Op.SAME, 2, 2, 1);
        binary("SAME", Op.SAME, 2, -2, 0);
        binary("SAME", Op.SAME, 0, MIN, 0);
    }

    private static void jumps() {
        Op.ended("JUMP", Op.done(Op.PUSH, 4, Op.JUMP, 3, Op.PUSH, 5, Op.RETURN, 0), 0, 4, 3);
        int[] tried = {0, 1, -1, MIN};
        for (int v : tried) {
            int[] code = {Op.PUSH, 8, Op.PUSH, v, Op.IF, 5, Op.PUSH, 9, Op.JUMP, 5, Op.RETURN, 0};
            Op.ended("IF of " + v, Op.done(code), 0, v != 0 ? 8 : 9, v != 0 ? 4 : 6);
            code[4] = Op.IFNOT;
            Op.ended("IFNOT of " + v, Op.done(code), 0, v == 0 ? 8 : 9, v == 0 ? 4 : 6);
        }
        // 1 + 2 + .. + 10, backwards jumps and all
        Op.ended("a loop", Op.done(Op.PUSH, 10, Op.STORE, 0, Op.LOAD, 0, Op.IFNOT, 13, Op.LOAD, 1, Op.LOAD, 0,
                Op.ADD, 0, Op.STORE, 1, Op.LOAD, 0, Op.PUSH, 1, Op.SUB, 0, Op.STORE, 0, Op.JUMP, 2,
                Op.LOAD, 1, Op.RETURN, 0), 0, 55, 2 + 10 * 11 + 4);
        StackRun x = Op.program(Op.JUMP, -7);
        x.begin();
        Check.same("a jump to nowhere is done", x.go(1), 1);
        Check.same("it has not ended", x.look(0), StackRun.NONE);
        Check.same("nowhere is next", x.frame(0, 1), -7);
        Check.same("nowhere is a step", x.go(9), 1);
        Check.same("it is broken", x.look(0), 2);
    }

    private static void rows() {
        StackRun x = Op.program(Op.PUSH, 3, Op.NEW, 0, Op.DUP, 0, Op.PUSH, 2, Op.PUSH, -8, Op.PUT, 0, Op.DUP, 0,
                Op.PUSH, 2, Op.GET, 0, Op.SWAP, 0, Op.SIZE, 0, Op.ADD, 0, Op.RETURN, 0);
        x.begin();
        x.go(6);
        Check.same("PUT takes three", x.frame(0, 2), 1);
        Check.same("first", x.row(0, 0), 0);
        Check.same("last", x.row(0, 2), -8);
        Op.ended("GET and SIZE", Op.finish(x), 0, -5, 13);
        Check.same("it is there after the end", x.row(0, 2), -8);
        Op.ended("an empty row", Op.done(Op.PUSH, 0, Op.NEW, 0, Op.SIZE, 0, Op.RETURN, 0), 0, 0, 4);
        Op.ended("a row of 64", Op.done(Op.PUSH, 64, Op.NEW, 0, Op.PUSH, 63, Op.GET, 0, Op.RETURN, 0), 0, 0, 5);
        // A second RUN has new rows, whatever the first left in its own.
        x.change(0, 0, Op.PUSH, 4);
        x.begin();
        x.go(2);
        Check.same("new rows are 0", x.row(0, 2), 0);
        Check.same("rows are counted anew", x.look(6), 1);
        Check.same("ints are counted anew", x.look(7), 4);
    }

    private static void rowsAreShared() {
        StackRun x = Op.program(Op.PUSH, 1, Op.NEW, 0, Op.DUP, 0, Op.STORE, 0, Op.CALL, 1, Op.LOAD, 0, Op.PUSH, 0,
                Op.GET, 0, Op.RETURN, 0);
        Op.function(x, 1, 1, 0, Op.LOAD, 0, Op.PUSH, 0, Op.PUSH, 77, Op.PUT, 0, Op.RETURN, 0);
        Op.ended("what a called function puts", Op.finish(x), 0, 77, 14);
    }

    private static void calls() {
        StackRun x = Op.program(Op.PUSH, 100, Op.PUSH, 5, Op.PUSH, 2, Op.NEW, 0, Op.PUSH, 7, Op.CALL, 1,
                Op.ADD, 0, Op.RETURN, 0);
        Op.function(x, 3, 5, 1, Op.LOAD, 0, Op.LOAD, 2, Op.SUB, 0, Op.RETURN, 0);
        x.begin();
        x.go(6);
        Check.same("the called one is done", x.frame(0, 0), 1);
        Check.same("from its beginning", x.frame(0, 1), 0);
        Check.same("its own stack", x.frame(0, 2), 0);
        Check.same("the first param", x.value(0, true, 0), 5);
        Check.same("a row as a param", x.kind(0, true, 1), 1);
        Check.same("the last param", x.value(0, true, 2), 7);
        Check.same("a local that is no param", x.kind(0, true, 3), 0);
        Check.same("the last local", x.kind(0, true, 4), 0);
        Check.same("no more locals", x.kind(0, true, 5), StackRun.NONE);
        Check.same("the params are taken", x.frame(1, 2), 1);
        Check.same("the call stands there", x.frame(1, 1), 5);
        x.go(4);
        Check.same("back behind the call", x.frame(0, 1), 6);
        Check.same("its value is put", x.value(0, false, 1), -2);
        Op.ended("a call", Op.finish(x), 0, 98, 12);
        localsBeginAtZero();
        functionZeroIsCalled();
    }

    private static void localsBeginAtZero() {
        StackRun x = Op.program(Op.CALL, 1, Op.CALL, 1, Op.RETURN, 0);
        Op.function(x, 0, 1, 0, Op.PUSH, 1, Op.NEW, 0, Op.STORE, 0, Op.RETURN, 0);
        x.begin();
        x.go(4);
        Check.same("a row in the local", x.kind(0, true, 0), 1);
        x.go(2);
        Check.same("the second call", x.frame(1, 1), 1);
        Check.same("its local is an int", x.kind(0, true, 0), 0);
        Check.same("its local is 0", x.value(0, true, 0), 0);
    }

    /** FUNCTION 0 has a param here: 0 for the RUN, 1 for its own call, which must not end the RUN. */
    private static void functionZeroIsCalled() {
        StackRun x = new StackRun();
        Op.function(x, 1, 1, 1, Op.LOAD, 0, Op.IF, 6, Op.PUSH, 1, Op.CALL, 0, Op.PUSH, 30, Op.JUMP, 8,
                Op.PUSH, 12, Op.RETURN, 0, Op.ADD, 0, Op.RETURN, 0);
        Op.ended("function 0 calls itself", Op.finish(x), 0, 42, 12);
        Check.same("two were done", x.look(5), 2);
    }

    private static void callsOutside() {
        StackRun x = Op.program(Op.PUSH, 1, Op.PUSH, 2, Op.PUSH, 3, Op.PUSH, 4, Op.HOST, 15, Op.HOST, 4,
                Op.HOST, 6, Op.HOST, 9, Op.ADD, 0, Op.RETURN, 0);
        x.answer(50);
        x.answer(-60);
        x.answer(70);
        x.begin();
        x.go(5);
        Check.same("three are taken, one put", x.frame(0, 2), 2);
        Check.same("the answer", x.value(0, false, 1), 50);
        Op.ended("answers in their order", Op.finish(x), 0, 1, 10);
        int[][] due = {{15, 2, 3, 4, 50}, {4, 0, 0, 0, -60}, {6, 50, -60, 0, 70}, {9, 70, 0, 0, 0}};
        for (int i = 0; i < due.length; i++) {
            for (int what = 0; what < 5; what++) {
                Check.same("trace " + i + " " + what, x.trace(i, what), due[i][what]);
            }
            Check.same("nothing before its number", x.trace(i, -1), 0);
            Check.same("nothing behind its answer", x.trace(i, 5), 0);
        }
    }

    private static void returns() {
        Op.ended("what is below is gone", Op.done(Op.PUSH, 1, Op.PUSH, 2, Op.RETURN, 0), 0, 2, 3);
        Op.ended("a row", Op.done(Op.PUSH, 9, Op.NEW, 0, Op.RETURN, 0), 0, 9, 3);
        StackRun x = new StackRun();
        Op.function(x, 0, 0, 0, Op.PUSH, 5, Op.CALL, 1, Op.RETURN, 0);
        Op.function(x, 0, 0, 0, Op.PUSH, 6, Op.RETURN, 0);
        x.begin();
        x.go(4);
        Check.same("no value is put", x.frame(0, 2), 1);
        Check.same("its own stays", x.value(0, false, 0), 5);
        Op.ended("no value", Op.finish(x), 0, 0, 5);
        x.clear();
        Op.function(x, 0, 0, 0, Op.CALL, 1, Op.RETURN, 0);
        Op.function(x, 0, 0, 1, Op.PUSH, 6, Op.NEW, 0, Op.RETURN, 0);
        x.begin();
        x.go(4);
        Check.same("a row is given back", x.kind(0, false, 0), 1);
        Check.same("a row is given back", x.value(0, false, 0), 6);
    }

    private static void numbersThatNothingIsSaidOf() {
        Op.ended("a number with DUP, ADD, RETURN",
                Op.done(Op.PUSH, 4, Op.DUP, 99, Op.ADD, -3, Op.RETURN, MAX), 0, 8, 4);
    }
}
