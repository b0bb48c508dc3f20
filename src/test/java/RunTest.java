/** Promises 10 to 17: begin, go, frame, value, kind, row, trace, look. */
public final class RunTest {
    private static final int NONE = StackRun.NONE;
    private static final int MIN = Integer.MIN_VALUE;
    private static final int MAX = Integer.MAX_VALUE;

    public static void main(String[] args) {
        begin();
        beginAnew();
        beginWithoutFunctions();
        go();
        frame();
        value();
        kind();
        row();
        trace();
        traceLimit();
        answersWhileItRuns();
        look();
        ended();
        Check.finish();
    }

    private static void begin() {
        StackRun x = new StackRun();
        Op.function(x, 2, 3, 0, Op.RETURN, 0);
        x.begin();
        int[] due = {NONE, 0, 0, 0, 1, 1, 0, 0, 1, 0};
        for (int which = 0; which < due.length; which++) {
            Check.same("begun: look " + which, x.look(which), due[which]);
        }
        Check.same("function", x.frame(0, 0), 0);
        Check.same("instruction", x.frame(0, 1), 0);
        Check.same("stack", x.frame(0, 2), 0);
        for (int i = 0; i < 3; i++) {
            Check.same("local " + i, x.kind(0, true, i), 0);
            Check.same("local " + i, x.value(0, true, i), 0);
        }
        Check.same("no local 3", x.kind(0, true, 3), NONE);
    }

    private static void beginAnew() {
        StackRun x = Op.program(Op.PUSH, 5, Op.STORE, 0, Op.PUSH, 2, Op.NEW, 0, Op.HOST, 0, Op.CALL, 1);
        Op.function(x, 0, 0, 0, Op.JUMP, 0);
        x.answer(3);
        x.begin();
        x.go(50);
        Check.same("two are done", x.look(4), 2);
        x.begin();
        int[] due = {NONE, 0, 0, 0, 1, 1, 0, 0, 2, 1};
        for (int which = 0; which < due.length; which++) {
            Check.same("begun anew: look " + which, x.look(which), due[which]);
        }
        Check.same("function 0", x.frame(0, 0), 0);
        Check.same("none below", x.frame(1, 0), NONE);
        Check.same("local 0", x.value(0, true, 0), 0);
        Check.same("no trace", x.trace(0, 4), 0);
        x.go(5);
        Check.same("the first answer again", x.trace(0, 4), 3);
        x = Op.done(Op.PUSH, 2, Op.NEW, 0, Op.DUP, 0, Op.PUSH, 0, Op.PUSH, 6, Op.PUT, 0, Op.PUSH, 5, Op.RETURN, 0);
        Check.same("it has a value", x.look(1), 5);
        x.begin();
        Check.same("it has none anew", x.look(1), 0);
        Check.same("nor a row", x.row(0, 0), 0);
    }

    private static void beginWithoutFunctions() {
        StackRun x = new StackRun();
        x.begin();
        Check.same("it is being done", x.look(4), 1);
        Check.same("one at the most", x.look(5), 1);
        Check.same("function 0", x.frame(0, 0), 0);
        Check.same("instruction 0", x.frame(0, 1), 0);
        Check.same("nothing on its stack", x.frame(0, 2), 0);
        Check.same("no local", x.kind(0, true, 0), NONE);
        Check.same("no local", x.value(0, true, 0), 0);
        Check.same("one step", x.go(5000), 1);
        Check.same("broken", x.look(0), 2);
    }

    private static void go() {
        StackRun x = Op.program(Op.JUMP, 0);
        Check.same("no run", x.go(1), NONE);
        x.begin();
        for (int n : new int[] {0, -1, 5001, MIN, MAX}) {
            Check.same("go " + n, x.go(n), NONE);
            Check.same("no steps", x.look(2), 0);
        }
        Check.same("go 1", x.go(1), 1);
        Check.same("go 5000", x.go(5000), 5000);
        Check.same("steps", x.look(2), 5001);
        x = Op.program(Op.PUSH, 1, Op.PUSH, 2, Op.RETURN, 0);
        x.begin();
        Check.same("two of three", x.go(2), 2);
        Check.same("not ended", x.look(0), NONE);
        Check.same("until the end", x.go(2), 1);
        Check.same("ended", x.look(0), 0);
        Check.same("nothing is left", x.go(2), 0);
        Check.same("steps", x.look(2), 3);
        Check.same("n is looked at all the same", x.go(0), NONE);
        x.begin();
        Check.same("just enough", x.go(3), 3);
        Check.same("ended", x.look(0), 0);
    }

    /** Three are being done, 0, 1 and 2, with 1, 2 and 3 on their STACKS. */
    private static StackRun three() {
        StackRun x = Op.program(Op.PUSH, 10, Op.PUSH, 64, Op.NEW, 0, Op.STORE, 0, Op.CALL, 1);
        Op.function(x, 0, 1, 0, Op.PUSH, 4, Op.NEW, 0, Op.PUSH, 21, Op.CALL, 2);
        Op.function(x, 0, 3, 0, Op.PUSH, 30, Op.PUSH, 31, Op.PUSH, 5, Op.NEW, 0, Op.DUP, 0, Op.STORE, 2, Op.JUMP, 6);
        x.begin();
        Check.same("three are begun", x.go(16), 16);
        return x;
    }

    private static void frame() {
        StackRun x = three();
        int[][] due = {{2, 6, 3}, {1, 3, 2}, {0, 4, 1}};
        for (int k = 0; k < 3; k++) {
            for (int what = 0; what < 3; what++) {
                Check.same("frame " + k + " " + what, x.frame(k, what), due[k][what]);
            }
            for (int what : new int[] {-1, 3, MIN, MAX}) {
                Check.same("frame " + k + " " + what, x.frame(k, what), NONE);
            }
        }
        for (int k : new int[] {-1, 3, 20, MIN, MAX}) {
            Check.same("frame " + k, x.frame(k, 0), NONE);
        }
    }

    private static void value() {
        StackRun x = three();
        int[][] stacks = {{30, 31, 5}, {4, 21}, {10}};
        int[][] locals = {{0, 0, 5}, {0}, {64, 0}};
        for (int k = 0; k < 3; k++) {
            for (int i = 0; i < 5; i++) {
                Check.same("value " + k + " " + i, x.value(k, false, i), i < stacks[k].length ? stacks[k][i] : 0);
                Check.same("local " + k + " " + i, x.value(k, true, i), i < locals[k].length ? locals[k][i] : 0);
            }
            for (int i : new int[] {-1, 16, MIN, MAX}) {
                Check.same("value " + k + " " + i, x.value(k, false, i), 0);
                Check.same("local " + k + " " + i, x.value(k, true, i), 0);
            }
        }
        for (int k : new int[] {-1, 3, MIN, MAX}) {
            Check.same("value of " + k, x.value(k, false, 0), 0);
        }
    }

    private static void kind() {
        StackRun x = three();
        int[][] stacks = {{0, 0, 3}, {2, 0}, {0}};
        int[][] locals = {{0, 0, 3}, {0}, {1, 0}};
        for (int k = 0; k < 3; k++) {
            for (int i = 0; i < 5; i++) {
                Check.same("kind " + k + " " + i, x.kind(k, false, i), i < stacks[k].length ? stacks[k][i] : NONE);
                Check.same("local " + k + " " + i, x.kind(k, true, i), i < locals[k].length ? locals[k][i] : NONE);
            }
            for (int i : new int[] {-1, 16, MIN, MAX}) {
                Check.same("kind " + k + " " + i, x.kind(k, false, i), NONE);
                Check.same("local " + k + " " + i, x.kind(k, true, i), NONE);
            }
        }
        for (int k : new int[] {-1, 3, MIN, MAX}) {
            Check.same("kind of " + k, x.kind(k, true, 0), NONE);
        }
    }

    private static void row() {
        StackRun x = Op.program(Op.PUSH, 2, Op.NEW, 0, Op.DUP, 0, Op.PUSH, 1, Op.PUSH, 11, Op.PUT, 0, Op.PUSH, 3,
                Op.NEW, 0, Op.DUP, 0, Op.PUSH, 0, Op.PUSH, MIN, Op.PUT, 0, Op.PUSH, 0, Op.NEW, 0, Op.RETURN, 0);
        Op.finish(x);
        int[][] due = {{0, 11}, {MIN, 0, 0}, {}};
        for (int r = 0; r < 4; r++) {
            for (int i = 0; i < 5; i++) {
                Check.same("row " + r + " " + i, x.row(r, i), r < 3 && i < due[r].length ? due[r][i] : 0);
            }
            for (int i : new int[] {-1, 64, MIN, MAX}) {
                Check.same("row " + r + " " + i, x.row(r, i), 0);
            }
        }
        for (int r : new int[] {-1, 500, MIN, MAX}) {
            Check.same("row " + r, x.row(r, 0), 0);
        }
    }

    private static void trace() {
        StackRun x = Op.program(Op.PUSH, 1, Op.PUSH, MIN, Op.PUSH, MAX, Op.HOST, 7, Op.RETURN, 0);
        x.answer(-5);
        Op.ended("the answer", Op.finish(x), 0, -5, 5);
        int[] due = {7, 1, MIN, MAX, -5};
        for (int what = 0; what < 5; what++) {
            Check.same("trace " + what, x.trace(0, what), due[what]);
            Check.same("there is no second", x.trace(1, what), 0);
            Check.same("none before the first", x.trace(-1, what), 0);
        }
        for (int wrong : new int[] {-1, 5, MIN, MAX}) {
            Check.same("trace 0 " + wrong, x.trace(0, wrong), 0);
        }
        for (int wrong : new int[] {64, MIN, MAX}) {
            Check.same("trace " + wrong, x.trace(wrong, 0), 0);
        }
        // What the first RUN asked with must not stay behind what the second asks with.
        x.change(0, 3, Op.HOST, 5);
        Op.finish(x);
        int[] anew = {5, MAX, 0, 0, -5};
        for (int what = 0; what < 5; what++) {
            Check.same("trace anew " + what, x.trace(0, what), anew[what]);
        }
    }

    private static void traceLimit() {
        StackRun x = Op.program(Op.LOAD, 0, Op.HOST, 13, Op.POP, 0, Op.LOAD, 0, Op.PUSH, 1, Op.ADD, 0, Op.STORE, 0,
                Op.JUMP, 0);
        for (int i = 0; i < 64; i++) {
            x.answer(1000 + i);
        }
        x.begin();
        x.go(8 * 66 + 2);
        Check.same("all are counted", x.look(3), 67);
        Check.same("the 67th is answered 0", x.value(0, false, 0), 0);
        for (int i = 0; i < 64; i++) {
            Check.same("number " + i, x.trace(i, 0), 13);
            Check.same("int " + i, x.trace(i, 1), i);
            Check.same("answer " + i, x.trace(i, 4), 1000 + i);
        }
        for (int i = 64; i < 68; i++) {
            Check.same("not kept " + i, x.trace(i, 0) | x.trace(i, 1) | x.trace(i, 4), 0);
        }
        Check.same("nothing behind the last that is kept", x.trace(63, 5), 0);
    }

    /** The n-th CALL OUTSIDE has the n-th ANSWER of those that are given when it is done. */
    private static void answersWhileItRuns() {
        StackRun x = Op.program(Op.HOST, 0, Op.POP, 0, Op.JUMP, 0);
        x.begin();
        x.go(1);
        Check.same("none is given", x.value(0, false, 0), 0);
        x.answer(7);
        x.answer(8);
        x.go(3);
        Check.same("the second", x.value(0, false, 0), 8);
        x.forget();
        x.answer(9);
        x.go(3);
        Check.same("there is no third", x.value(0, false, 0), 0);
        x.answer(10);
        x.answer(11);
        x.answer(12);
        x.go(3);
        Check.same("the fourth", x.value(0, false, 0), 12);
        int[] due = {0, 8, 0, 12};
        for (int i = 0; i < 4; i++) {
            Check.same("as it was answered then", x.trace(i, 4), due[i]);
        }
        Check.same("calls outside", x.look(3), 4);
    }

    private static void look() {
        StackRun x = three();
        int[] due = {NONE, 0, 16, 0, 3, 3, 3, 73, 3, 0};
        for (int which = 0; which < due.length; which++) {
            Check.same("look " + which, x.look(which), due[which]);
        }
        for (int which : new int[] {-1, 10, MIN, MAX}) {
            Check.same("look " + which, x.look(which), NONE);
        }
        Check.same("a code is the value", Op.done(Op.PUSH, -4, Op.THROW, 0).look(1), -4);
        Check.same("no value when broken", Op.done(Op.PUSH, -4, Op.ADD, 0).look(1), 0);
        Check.same("a row's size is the value", Op.done(Op.PUSH, 6, Op.NEW, 0, Op.RETURN, 0).look(1), 6);
    }

    private static void ended() {
        StackRun x = Op.done(Op.PUSH, 2, Op.NEW, 0, Op.HOST, 0, Op.RETURN, 0);
        int[] due = {0, 0, 4, 1, 0, 1, 1, 2, 1, 0};
        for (int which = 0; which < due.length; which++) {
            Check.same("ended: look " + which, x.look(which), due[which]);
        }
        Check.same("no frame", x.frame(0, 0), NONE);
        Check.same("no value", x.value(0, false, 0), 0);
        Check.same("no kind", x.kind(0, false, 0), NONE);
        Check.same("no local", x.kind(0, true, 0), NONE);
        Check.same("no steps", x.go(1), 0);
    }
}
