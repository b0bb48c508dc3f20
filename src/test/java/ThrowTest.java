/** The codes that are thrown, and which HANDLER takes them. */
public final class ThrowTest {
    private static final int MIN = Integer.MIN_VALUE;
    private static final int MAX = Integer.MAX_VALUE;

    public static void main(String[] args) {
        divisor();
        place();
        newRow();
        manyRows();
        manyInts();
        depth();
        anyCode();
        whichInstruction();
        firstHandler();
        codeAlone();
        callersTakeIt();
        handlerOfTheCallOnly();
        functionZeroNested();
        Check.finish();
    }

    private static void thrown(String what, int code, int steps, int... program) {
        Op.ended(what, Op.done(program), 1, code, steps);
    }

    private static void divisor() {
        thrown("DIV by 0", 1, 3, Op.PUSH, 5, Op.PUSH, 0, Op.DIV, 0);
        thrown("REM by 0", 1, 3, Op.PUSH, MIN, Op.PUSH, 0, Op.REM, 0);
        thrown("DIV of 0 by 0", 1, 3, Op.PUSH, 0, Op.DUP, 0, Op.DIV, 0);
    }

    private static void place() {
        for (int i : new int[] {-1, 3, 64, MIN, MAX}) {
            thrown("GET at " + i, 2, 4, Op.PUSH, 3, Op.NEW, 0, Op.PUSH, i, Op.GET, 0);
            thrown("PUT at " + i, 2, 5, Op.PUSH, 3, Op.NEW, 0, Op.PUSH, i, Op.PUSH, 0, Op.PUT, 0);
        }
        thrown("GET of an empty row", 2, 4, Op.PUSH, 0, Op.NEW, 0, Op.PUSH, 0, Op.GET, 0);
        StackRun x = Op.done(Op.PUSH, 1, Op.NEW, 0, Op.PUSH, 1, Op.PUSH, 9, Op.PUT, 0);
        Check.same("nothing is put", x.row(0, 0), 0);
    }

    private static void newRow() {
        for (int n : new int[] {-1, 65, 1024, MIN, MAX}) {
            thrown("NEW of " + n, 3, 2, Op.PUSH, n, Op.NEW, 0);
            Check.same("no row is made", Op.done(Op.PUSH, n, Op.NEW, 0).look(6), 0);
        }
    }

    /** NEW of n, again and again. */
    private static StackRun newAgain(int n) {
        return Op.finish(Op.program(Op.PUSH, n, Op.NEW, 0, Op.POP, 0, Op.JUMP, 0));
    }

    private static void manyRows() {
        StackRun x = newAgain(0);
        Op.ended("the 501st row", x, 1, 3, 4 * 500 + 2);
        Check.same("rows", x.look(6), 500);
        Check.same("ints", x.look(7), 0);
        x = newAgain(2);
        Op.ended("the 501st row of 2", x, 1, 3, 4 * 500 + 2);
        Check.same("ints", x.look(7), 1000);
    }

    private static void manyInts() {
        StackRun x = newAgain(64);
        Op.ended("16 rows of 64 are 1024 ints", x, 1, 3, 4 * 16 + 2);
        Check.same("rows", x.look(6), 16);
        Check.same("ints", x.look(7), 1024);
        x = newAgain(63);
        Op.ended("a 17th of 63 is too much", x, 1, 3, 4 * 16 + 2);
        Check.same("ints", x.look(7), 1008);
        x.handler(0, 0, 4, 4);
        x.add(0, Op.POP, 0);
        x.add(0, Op.PUSH, 17);
        x.add(0, Op.NEW, 0);
        Op.ended("17 more would be 1025", Op.finish(x), 1, 3, 4 * 16 + 2 + 3);
        x.change(0, 5, Op.PUSH, 16);
        x.add(0, Op.RETURN, 0);
        Op.ended("16 more are 1024", Op.finish(x), 0, 16, 4 * 16 + 2 + 4);
        Check.same("ints", x.look(7), 1024);
        x.change(0, 7, Op.POP, 0);
        x.add(0, Op.PUSH, 0);
        x.add(0, Op.NEW, 0);
        x.add(0, Op.RETURN, 0);
        Op.ended("an empty one beside 1024", Op.finish(x), 0, 0, 4 * 16 + 2 + 7);
        Check.same("rows", x.look(6), 18);
    }

    private static void depth() {
        StackRun x = new StackRun();
        Op.function(x, 0, 0, 0, Op.CALL, 0, Op.RETURN, 0);
        Op.ended("the 21st", Op.finish(x), 1, 4, 20);
        Check.same("the most that were done", x.look(5), 20);
        x.begin();
        x.go(19);
        Check.same("twenty are done", x.look(4), 20);
        Check.same("the first of them", x.frame(19, 0), 0);
        Check.same("none below", x.frame(20, 0), StackRun.NONE);
        x.handler(0, 0, 1, 1);
        x.only(0, 4);
        Op.ended("each returns", Op.finish(x), 0, 0, 20 + 20);
        x.begin();
        x.go(20);
        Check.same("the 20th took it itself", x.look(4), 20);
        Check.same("and goes on there", x.frame(0, 1), 1);
        Check.same("with the code", x.value(0, false, 0), 4);
    }

    private static void anyCode() {
        for (int code : new int[] {0, 1, -1, 4, MIN, MAX}) {
            thrown("THROW of " + code, code, 2, Op.PUSH, code, Op.THROW, 0);
        }
    }

    /** FROM is not above the INSTRUCTION that throws, TO is above it. */
    private static void whichInstruction() {
        int[][] tried = {{2, 3, 1}, {0, 3, 1}, {0, 2, 0}, {3, 4, 0}, {2, 2, 0}, {3, 2, 0}, {0, 100, 1}, {2, 100, 1}};
        for (int[] t : tried) {
            StackRun x = Op.program(Op.JUMP, 1, Op.PUSH, 6, Op.THROW, 0, Op.RETURN, 0);
            x.handler(0, t[0], t[1], 3);
            Op.ended("a handler from " + t[0] + " to " + t[1], Op.finish(x), 1 - t[2], 6, 3 + t[2]);
        }
    }

    private static void firstHandler() {
        int[] code = {Op.PUSH, 6, Op.THROW, 0, Op.PUSH, 10, Op.RETURN, 0, Op.PUSH, 20, Op.RETURN, 0};
        StackRun x = Op.program(code);
        x.handler(0, 0, 2, 2);
        x.handler(0, 1, 2, 4);
        Op.ended("the first of two", Op.finish(x), 0, 10, 4);
        x = Op.program(code);
        x.handler(0, 0, 2, 2);
        x.only(0, 5);
        x.handler(0, 1, 2, 4);
        Op.ended("the first is for another code", Op.finish(x), 0, 20, 4);
        x = Op.program(code);
        x.handler(0, 0, 1, 2);
        x.handler(0, 1, 2, 4);
        x.only(0, 6);
        Op.ended("the first is elsewhere", Op.finish(x), 0, 20, 4);
        x = Op.program(Op.PUSH, 1, Op.PUSH, 0, Op.DIV, 0, Op.PUSH, 10, Op.RETURN, 0);
        x.handler(0, 0, 3, 3);
        x.only(0, 1);
        Op.ended("codes that the machine throws", Op.finish(x), 0, 10, 5);
    }

    private static void codeAlone() {
        StackRun x = Op.program(Op.PUSH, 1, Op.PUSH, 2, Op.STORE, 1, Op.PUSH, 3, Op.NEW, 0, Op.PUSH, -9, Op.THROW, 0);
        x.handler(0, 6, 7, 50);
        x.begin();
        Check.same("it is one step", x.go(7), 7);
        Check.same("the code alone", x.frame(0, 2), 1);
        Check.same("the code", x.value(0, false, 0), -9);
        Check.same("it is an int", x.kind(0, false, 0), 0);
        Check.same("at the target", x.frame(0, 1), 50);
        Check.same("locals stay", x.value(0, true, 1), 2);
        Check.same("the run has not ended", x.look(0), StackRun.NONE);
    }

    private static void callersTakeIt() {
        StackRun x = Op.program(Op.PUSH, 8, Op.STORE, 0, Op.PUSH, 1, Op.CALL, 1, Op.RETURN, 0, Op.LOAD, 0, Op.ADD, 0,
                Op.RETURN, 0);
        x.handler(0, 3, 4, 5);
        Op.function(x, 0, 0, 0, Op.CALL, 2, Op.RETURN, 0);
        x.handler(1, 0, 1, 1);
        x.only(1, 99);
        Op.function(x, 0, 0, 0, Op.PUSH, 34, Op.THROW, 0);
        x.begin();
        Check.same("up to the throw", x.go(6), 6);
        Check.same("three are done", x.look(4), 3);
        x.go(1);
        Check.same("two are done no more", x.look(4), 1);
        Check.same("one step", x.look(2), 7);
        Check.same("at the target of the caller", x.frame(0, 1), 5);
        Check.same("the code alone", x.frame(0, 2), 1);
        Op.ended("it goes on", Op.finish(x), 0, 42, 10);
        Check.same("the most that were", x.look(5), 3);
        x.change(2, 0, Op.PUSH, 99);
        Op.ended("the nearest that takes it", Op.finish(x), 0, 1, 9);
    }

    /** The caller's HANDLER must cover its CALL, not what stands behind it. */
    private static void handlerOfTheCallOnly() {
        int[][] tried = {{0, 1, 0}, {1, 2, 1}, {2, 3, 0}};
        for (int[] t : tried) {
            StackRun x = Op.program(Op.JUMP, 1, Op.CALL, 1, Op.RETURN, 0);
            x.handler(0, t[0], t[1], 2);
            Op.function(x, 0, 0, 0, Op.JUMP, 2, Op.POP, 0, Op.PUSH, 3, Op.THROW, 0);
            Op.ended("a caller's handler from " + t[0], Op.finish(x), 1 - t[2], 3, 5 + t[2]);
        }
    }

    private static void functionZeroNested() {
        StackRun x = new StackRun();
        Op.function(x, 1, 1, 1, Op.LOAD, 0, Op.IF, 5, Op.PUSH, 1, Op.CALL, 0, Op.RETURN, 0, Op.PUSH, 70, Op.THROW, 0);
        x.handler(0, 3, 4, 4);
        Op.ended("thrown by the CALL of function 0", Op.finish(x), 0, 70, 9);
    }
}
