/** What is BROKEN: the RUN ends 2 there, it is a STEP, and it is looked at ahead of what is thrown. */
public final class BrokenTest {
    private static final int MIN = Integer.MIN_VALUE;
    private static final int MAX = Integer.MAX_VALUE;

    public static void main(String[] args) {
        notThere();
        tooFew();
        wrongKind();
        tooMany();
        noSuchNumber();
        returnOnFullStack();
        aheadOfThrown();
        handlersDoNotTakeIt();
        leavesNothingDone();
        Check.finish();
    }

    private static void broken(String what, int steps, int... code) {
        Op.ended(what, Op.done(code), 2, 0, steps);
    }

    private static void notThere() {
        Op.ended("no function 0", Op.finish(new StackRun()), 2, 0, 1);
        broken("no instruction", 1);
        broken("behind the last", 2, Op.PUSH, 1);
        broken("jump behind the last", 2, Op.JUMP, 1);
        broken("jump before the first", 2, Op.JUMP, -1);
        broken("jump far", 2, Op.JUMP, MAX);
        broken("jump far", 2, Op.JUMP, MIN);
        broken("IF to nowhere", 3, Op.PUSH, 1, Op.IF, 50);
        StackRun x = Op.program(Op.PUSH, 1, Op.THROW, 0);
        x.handler(0, 0, 100, 100);
        Op.ended("a handler to nowhere", Op.finish(x), 2, 0, 3);
        x = Op.program(Op.CALL, 1);
        x.function(0, 0, 0);
        Op.ended("a called function without instructions", Op.finish(x), 2, 0, 2);
        Check.same("two were done", x.look(5), 2);
        fullFunction();
    }

    private static void fullFunction() {
        StackRun x = new StackRun();
        x.function(0, 0, 0);
        for (int i = 0; i < 100; i++) {
            x.add(0, Op.JUMP, i + 1);
        }
        Op.ended("instruction 100 is never there", Op.finish(x), 2, 0, 101);
    }

    private static void tooFew() {
        int[] needOne = {Op.POP, Op.DUP, Op.STORE, Op.IF, Op.IFNOT, Op.NEW, Op.SIZE, Op.RETURN, Op.THROW};
        for (int operation : needOne) {
            broken("nothing for " + operation, 1, operation, 0);
        }
        for (int operation = Op.ADD; operation <= Op.SAME; operation++) {
            broken("nothing for " + operation, 1, operation, 0);
            broken("one for " + operation, 2, Op.PUSH, 1, operation, 0);
        }
        broken("nothing for SWAP", 1, Op.SWAP, 0);
        broken("one for SWAP", 2, Op.PUSH, 1, Op.SWAP, 0);
        broken("only an int for GET", 2, Op.PUSH, 0, Op.GET, 0);
        broken("only ints for PUT", 3, Op.PUSH, 0, Op.PUSH, 0, Op.PUT, 0);
        for (int v = 0; v < 16; v++) {
            for (int has = 0; has < v % 4; has++) {
                int[] code = new int[2 * has + 2];
                code[2 * has] = Op.HOST;
                code[2 * has + 1] = v;
                broken(has + " for HOST " + v, has + 1, code);
            }
        }
        StackRun x = Op.program(Op.PUSH, 1, Op.CALL, 1);
        Op.function(x, 2, 2, 0, Op.RETURN, 0);
        Op.ended("one for two params", Op.finish(x), 2, 0, 2);
        Check.same("it was not begun", x.look(5), 1);
    }

    private static void wrongKind() {
        for (int operation = Op.ADD; operation <= Op.SAME; operation++) {
            broken("a row above for " + operation, 4, Op.PUSH, 1, Op.DUP, 0, Op.NEW, 0, operation, 0);
            broken("a row below for " + operation, 4, Op.PUSH, 1, Op.NEW, 0, Op.PUSH, 1, operation, 0);
        }
        int[] needInt = {Op.IF, Op.IFNOT, Op.NEW, Op.THROW};
        for (int operation : needInt) {
            broken("a row for " + operation, 3, Op.PUSH, 1, Op.NEW, 0, operation, 0);
        }
        broken("an int for SIZE", 2, Op.PUSH, 1, Op.SIZE, 0);
        broken("GET from an int", 3, Op.PUSH, 1, Op.PUSH, 0, Op.GET, 0);
        broken("GET at a row", 4, Op.PUSH, 1, Op.NEW, 0, Op.DUP, 0, Op.GET, 0);
        broken("PUT into an int", 4, Op.PUSH, 1, Op.PUSH, 0, Op.PUSH, 0, Op.PUT, 0);
        broken("PUT at a row", 5, Op.PUSH, 1, Op.NEW, 0, Op.DUP, 0, Op.PUSH, 0, Op.PUT, 0);
        broken("PUT of a row", 6, Op.PUSH, 1, Op.NEW, 0, Op.DUP, 0, Op.PUSH, 0, Op.SWAP, 0, Op.PUT, 0);
        broken("HOST 1 of a row", 3, Op.PUSH, 1, Op.NEW, 0, Op.HOST, 1);
        broken("HOST 2 of a row", 4, Op.PUSH, 1, Op.NEW, 0, Op.PUSH, 1, Op.HOST, 2);
        broken("HOST 3 of a row", 5, Op.PUSH, 1, Op.NEW, 0, Op.PUSH, 1, Op.PUSH, 1, Op.HOST, 3);
        Check.same("a broken HOST is no call outside", Op.done(Op.HOST, 1).look(3), 0);
    }

    /** FUNCTION 0 puts 16 on its STACK, then does this. */
    private static StackRun full(int operation, int number) {
        StackRun x = new StackRun();
        x.function(0, 2, 1);
        for (int i = 0; i < 16; i++) {
            x.add(0, Op.PUSH, i);
        }
        x.add(0, operation, number);
        x.begin();
        Check.same("sixteen can be put", x.go(16), 16);
        Check.same("they are there", x.frame(0, 2), 16);
        Check.same("the last one", x.value(0, false, 15), 15);
        x.go(1);
        return x;
    }

    private static void tooMany() {
        Op.ended("PUSH of a 17th", full(Op.PUSH, 1), 2, 0, 17);
        Op.ended("DUP to a 17th", full(Op.DUP, 0), 2, 0, 17);
        Op.ended("LOAD of a 17th", full(Op.LOAD, 0), 2, 0, 17);
        Op.ended("HOST 0", full(Op.HOST, 0), 2, 0, 17);
        Op.ended("HOST 12", full(Op.HOST, 12), 2, 0, 17);
        Check.same("a broken HOST is no call outside", full(Op.HOST, 0).look(3), 0);
        Check.same("HOST 1 takes one first", full(Op.HOST, 1).frame(0, 2), 16);
        Check.same("ADD", full(Op.ADD, 0).frame(0, 2), 15);
        Check.same("SWAP", full(Op.SWAP, 0).value(0, false, 14), 15);
        Check.same("NEW", full(Op.NEW, 0).kind(0, false, 15), 1);
        Op.ended("RETURN", full(Op.RETURN, 0), 0, 15, 17);
    }

    private static void noSuchNumber() {
        for (int v : new int[] {-1, 2, 8, MIN, MAX}) {
            broken("LOAD " + v, 1, Op.LOAD, v);
            broken("STORE " + v, 2, Op.PUSH, 1, Op.STORE, v);
        }
        for (int v : new int[] {-1, 1, 8, MIN, MAX}) {
            broken("CALL " + v, 1, Op.CALL, v);
        }
        for (int v : new int[] {-1, -4, 16, MIN, MAX}) {
            broken("HOST " + v, 4, Op.PUSH, 1, Op.PUSH, 1, Op.PUSH, 1, Op.HOST, v);
        }
        StackRun x = new StackRun();
        Op.function(x, 0, 0, 1, Op.LOAD, 0, Op.RETURN, 0);
        Op.ended("LOAD without locals", Op.finish(x), 2, 0, 1);
    }

    private static void returnOnFullStack() {
        StackRun x = full(Op.CALL, 1);
        Op.ended("CALL of no function", x, 2, 0, 17);
        Op.function(x, 0, 0, 1, Op.PUSH, 1, Op.RETURN, 0);
        x.begin();
        Check.same("the call itself is right", x.go(18), 18);
        Check.same("it has not ended", x.look(0), StackRun.NONE);
        Check.same("its return is not", x.go(5), 1);
        Op.ended("RETURN as a 17th", x, 2, 0, 19);
        x = full(Op.CALL, 1);
        Op.function(x, 0, 0, 0, Op.RETURN, 0);
        x.begin();
        x.go(18);
        Check.same("RETURN without a value", x.frame(0, 2), 16);
        Check.same("behind the call", x.frame(0, 1), 17);
    }

    private static void aheadOfThrown() {
        broken("PUT of a row where nothing is", 6,
                Op.PUSH, 1, Op.NEW, 0, Op.DUP, 0, Op.PUSH, 5, Op.SWAP, 0, Op.PUT, 0);
        broken("GET from an int where nothing is", 3, Op.PUSH, 1, Op.PUSH, 99, Op.GET, 0);
        broken("DIV of a row by 0", 4, Op.PUSH, 1, Op.NEW, 0, Op.PUSH, 0, Op.DIV, 0);
        broken("DIV by 0 of nothing", 2, Op.PUSH, 0, Op.DIV, 0);
        broken("REM by 0 of nothing", 2, Op.PUSH, 0, Op.REM, 0);
        StackRun x = Op.program(Op.LOAD, 0, Op.CALL, 1);
        Op.function(x, 1, 2, 0, Op.LOAD, 1, Op.CALL, 1);
        Op.ended("the 21st call throws", Op.finish(x), 1, 4, 2 + 19 * 2);
        x.change(1, 0, Op.JUMP, 1);
        Op.ended("a call without its param is broken", Op.finish(x), 2, 0, 4);
        deepCalls();
    }

    /** FUNCTION 0 counts how deep it is, and does instruction 8 when twenty are being done. */
    private static void deepCalls() {
        StackRun x = new StackRun();
        Op.function(x, 1, 1, 0, Op.LOAD, 0, Op.PUSH, 1, Op.ADD, 0, Op.DUP, 0, Op.PUSH, 20, Op.SAME, 0, Op.IF, 8,
                Op.CALL, 0, Op.CALL, 7);
        Op.ended("CALL of no function, 20 deep", Op.finish(x), 2, 0, 20 * 8);
        Check.same("twenty were done", x.look(5), 20);
        x.change(0, 8, Op.POP, 0);
        x.add(0, Op.CALL, 0);
        Op.ended("CALL without its param, 20 deep", Op.finish(x), 2, 0, 20 * 8 + 1);
        x.change(0, 8, Op.DUP, 0);
        Op.ended("CALL with its param, 20 deep", Op.finish(x), 1, 4, 20 * 8 + 1);
    }

    private static void handlersDoNotTakeIt() {
        StackRun x = Op.program(Op.POP, 0, Op.RETURN, 0);
        x.handler(0, 0, 100, 1);
        Op.ended("broken under a handler", Op.finish(x), 2, 0, 1);
        x = Op.program(Op.CALL, 1, Op.RETURN, 0);
        x.handler(0, 0, 100, 1);
        Op.function(x, 0, 0, 0, Op.POP, 0);
        Op.ended("broken in a called function", Op.finish(x), 2, 0, 2);
    }

    private static void leavesNothingDone() {
        StackRun x = Op.done(Op.PUSH, 2, Op.NEW, 0, Op.HOST, 0, Op.SWAP, 0, Op.ADD, 0);
        Op.ended("broken", x, 2, 0, 5);
        Check.same("frame", x.frame(0, 0), StackRun.NONE);
        Check.same("value", x.value(0, false, 0), 0);
        Check.same("kind", x.kind(0, false, 0), StackRun.NONE);
        Check.same("no more steps", x.go(5), 0);
        Check.same("steps stay", x.look(2), 5);
        Check.same("rows stay", x.look(6), 1);
        Check.same("ints stay", x.look(7), 2);
        Check.same("calls outside stay", x.look(3), 1);
        Check.same("the most stays", x.look(5), 1);
    }
}
