/** Promises 1 to 9: a new object, function, add, change, handler, only, clear, answer, forget. */
public final class BuildTest {
    private static final int NONE = StackRun.NONE;
    private static final int MIN = Integer.MIN_VALUE;
    private static final int MAX = Integer.MAX_VALUE;

    public static void main(String[] args) {
        newObject();
        function();
        functionLimit();
        add();
        change();
        handler();
        only();
        clear();
        answer();
        forget();
        runGoesWithTheProgram();
        refusedCallsLeaveTheRun();
        answersLeaveTheRun();
        Check.finish();
    }

    private static void newObject() {
        StackRun x = new StackRun();
        int[] due = {NONE, 0, 0, 0, 0, 0, 0, 0, 0, 0, NONE};
        for (int which = 0; which < due.length; which++) {
            Check.same("new: look " + which, x.look(which), due[which]);
        }
        Check.same("new: look -1", x.look(-1), NONE);
        Check.same("new: go", x.go(1), NONE);
        Check.same("new: frame", x.frame(0, 0), NONE);
        Check.same("new: value", x.value(0, true, 0), 0);
        Check.same("new: kind", x.kind(0, true, 0), NONE);
        Check.same("new: row", x.row(0, 0), 0);
        Check.same("new: trace", x.trace(0, 0), 0);
        Check.same("new: add", x.add(0, 0, 0), NONE);
        Check.no("new: change", x.change(0, 0, 0, 0));
        Check.no("new: handler", x.handler(0, 0, 0, 0));
        Check.no("new: only", x.only(0, 0));
    }

    private static void function() {
        int[][] wrong = {
            {-1, 0, 0}, {5, 5, 0}, {5, 8, 1}, {MIN, 0, 0}, {MAX, MAX, 0}, {0, -1, 0}, {0, 9, 0}, {4, 3, 0},
            {1, 0, 0}, {0, MIN, 0}, {0, MAX, 0}, {0, 0, -1}, {0, 0, 2}, {0, 0, MIN}, {0, 0, MAX},
        };
        StackRun x = new StackRun();
        for (int[] w : wrong) {
            Check.same("function of " + w[0] + " " + w[1] + " " + w[2], x.function(w[0], w[1], w[2]), NONE);
            Check.same("none was made", x.look(8), 0);
        }
        int[][] right = {{0, 0, 0}, {0, 0, 1}, {4, 4, 0}, {4, 8, 1}, {0, 8, 0}, {1, 1, 1}};
        for (int i = 0; i < right.length; i++) {
            Check.same("function " + i, x.function(right[i][0], right[i][1], right[i][2]), i);
            Check.same("functions", x.look(8), i + 1);
        }
    }

    private static void functionLimit() {
        StackRun x = new StackRun();
        for (int i = 0; i < 8; i++) {
            Check.same("function " + i, x.function(0, 0, 0), i);
        }
        Check.same("the ninth", x.function(0, 0, 0), NONE);
        Check.same("functions", x.look(8), 8);
        Check.same("add to the last", x.add(7, Op.PUSH, 1), 0);
        Check.same("add to the ninth", x.add(8, Op.PUSH, 1), NONE);
    }

    private static void add() {
        StackRun x = new StackRun();
        x.function(0, 0, 1);
        x.function(0, 0, 1);
        for (int f : new int[] {-1, 2, 8, MIN, MAX}) {
            Check.same("add to function " + f, x.add(f, 0, 0), NONE);
        }
        for (int operation : new int[] {-1, 29, MIN, MAX}) {
            Check.same("add operation " + operation, x.add(0, operation, 0), NONE);
        }
        for (int i = 0; i < 100; i++) {
            Check.same("add", x.add(0, i % 29, i % 2 == 0 ? MIN : MAX), i);
        }
        Check.same("the 101st", x.add(0, 0, 0), NONE);
        Check.same("another function has its own", x.add(1, Op.PUSH, MIN), 0);
    }

    private static void change() {
        StackRun x = Op.program(Op.PUSH, 5, Op.RETURN, 0);
        for (int f : new int[] {-1, 1, MIN, MAX}) {
            Check.no("change of function " + f, x.change(f, 0, 0, 0));
        }
        for (int i : new int[] {-1, 2, 100, MIN, MAX}) {
            Check.no("change of instruction " + i, x.change(0, i, 0, 0));
        }
        for (int operation : new int[] {-1, 29, MIN, MAX}) {
            Check.no("change to operation " + operation, x.change(0, 0, operation, 0));
        }
        Op.ended("not changed", Op.finish(x), 0, 5, 2);
        Check.yes("change of the first", x.change(0, 0, Op.PUSH, MAX));
        Op.ended("changed", Op.finish(x), 0, MAX, 2);
        Check.yes("change of the last", x.change(0, 1, Op.THROW, 0));
        Op.ended("changed", Op.finish(x), 1, MAX, 2);
        Check.same("how many stay", x.add(0, Op.POP, 0), 2);
        Check.yes("the operation 28", x.change(0, 2, 28, 0));
        Check.yes("the operation 0", x.change(0, 2, 0, 0));
    }

    private static void handler() {
        StackRun x = Op.program(Op.PUSH, 7, Op.THROW, 0, Op.RETURN, 0);
        for (int f : new int[] {-1, 1, MIN, MAX}) {
            Check.no("handler of function " + f, x.handler(f, 0, 100, 2));
        }
        for (int wrong : new int[] {-1, 101, MIN, MAX}) {
            Check.no("from " + wrong, x.handler(0, wrong, 100, 2));
            Check.no("to " + wrong, x.handler(0, 0, wrong, 2));
            Check.no("target " + wrong, x.handler(0, 0, 100, wrong));
        }
        Op.ended("no handler", Op.finish(x), 1, 7, 2);
        Check.yes("from above to", x.handler(0, 100, 0, 100));
        Check.yes("all 0", x.handler(0, 0, 0, 0));
        Check.yes("all 100", x.handler(0, 100, 100, 100));
        Op.ended("none that covers it", Op.finish(x), 1, 7, 2);
        Check.yes("the fourth", x.handler(0, 1, 2, 2));
        Check.no("the fifth", x.handler(0, 1, 2, 2));
        Op.ended("the fourth takes it", Op.finish(x), 0, 7, 3);
    }

    private static void only() {
        StackRun x = Op.program(Op.PUSH, 7, Op.THROW, 0, Op.RETURN, 0, Op.POP, 0, Op.PUSH, 1, Op.RETURN, 0);
        Check.no("only without a handler", x.only(0, 7));
        Check.no("only of no function", x.only(1, 7));
        Check.no("only of no function", x.only(-1, 7));
        Check.yes("handler", x.handler(0, 0, 100, 2));
        Check.yes("only", x.only(0, 6));
        Op.ended("not for this code", Op.finish(x), 1, 7, 2);
        Check.yes("only once more", x.only(0, 7));
        Op.ended("for this code", Op.finish(x), 0, 7, 3);
        Check.yes("another handler", x.handler(0, 0, 100, 3));
        Check.yes("only the last one", x.only(0, 9));
        Op.ended("the first is as it was", Op.finish(x), 0, 7, 3);
        for (int code : new int[] {0, -1, MIN, MAX}) {
            x.change(0, 0, Op.PUSH, code);
            Op.ended("not for " + code, Op.finish(x), 1, code, 2);
            x.only(0, code);
            Op.ended("for " + code, Op.finish(x), 0, 1, 5);
        }
    }

    private static void clear() {
        StackRun x = Op.program(Op.PUSH, 7, Op.THROW, 0, Op.RETURN, 0);
        x.handler(0, 0, 100, 2);
        x.only(0, 7);
        x.answer(3);
        Op.finish(x);
        x.clear();
        Check.same("functions", x.look(8), 0);
        Check.same("answers stay", x.look(9), 1);
        Check.same("no run", x.look(0), NONE);
        Check.same("no steps", x.look(2), 0);
        Check.same("no run to go", x.go(1), NONE);
        Check.same("add to none", x.add(0, 0, 0), NONE);
        Check.same("function 0 anew", x.function(0, 0, 1), 0);
        Check.no("it has no handler", x.only(0, 7));
        Check.same("it has no instruction", x.add(0, Op.PUSH, 7), 0);
        x.add(0, Op.THROW, 0);
        Op.ended("no handler is left", Op.finish(x), 1, 7, 2);
        Check.yes("a handler anew", x.handler(0, 0, 100, 2));
        x.add(0, Op.RETURN, 0);
        x.change(0, 0, Op.PUSH, 8);
        Op.ended("it is for any code", Op.finish(x), 0, 8, 3);
        x.clear();
        x.clear();
        for (int i = 0; i < 8; i++) {
            Check.same("eight functions anew", x.function(0, 0, 0), i);
        }
    }

    private static void answer() {
        StackRun x = new StackRun();
        for (int i = 1; i <= 64; i++) {
            Check.same("answer", x.answer(i % 2 == 0 ? MIN : MAX), i);
            Check.same("answers", x.look(9), i);
        }
        Check.same("the 65th", x.answer(0), NONE);
        Check.same("answers", x.look(9), 64);
    }

    private static void forget() {
        StackRun x = Op.program(Op.HOST, 0, Op.RETURN, 0);
        x.forget();
        x.answer(4);
        Op.ended("with an answer", Op.finish(x), 0, 4, 2);
        x.forget();
        Check.same("answers", x.look(9), 0);
        Check.same("functions stay", x.look(8), 1);
        Op.ended("without", Op.finish(x), 0, 0, 2);
        Check.same("the first anew", x.answer(6), 1);
        Op.ended("with another", Op.finish(x), 0, 6, 2);
    }

    /** A RUN in the middle of its work, of which every part can be asked. */
    private static StackRun midway() {
        StackRun x = Op.program(Op.PUSH, 3, Op.NEW, 0, Op.HOST, 0, Op.PUSH, 9, Op.RETURN, 0);
        x.handler(0, 9, 9, 9);
        x.answer(5);
        x.begin();
        x.go(3);
        Check.same("midway", x.look(2), 3);
        return x;
    }

    private static void noRun(String after, StackRun x) {
        int[] due = {NONE, 0, 0, 0, 0, 0, 0, 0};
        for (int which = 0; which < due.length; which++) {
            Check.same("no run after " + after + ": look " + which, x.look(which), due[which]);
        }
        Check.same("no run after " + after + ": go", x.go(1), NONE);
        Check.same("no run after " + after + ": frame", x.frame(0, 0), NONE);
        Check.same("no run after " + after + ": value", x.value(0, false, 1), 0);
        Check.same("no run after " + after + ": kind", x.kind(0, true, 0), NONE);
        Check.same("no run after " + after + ": row", x.row(0, 0), 0);
        Check.same("no run after " + after + ": trace", x.trace(0, 4), 0);
    }

    private static void runGoesWithTheProgram() {
        StackRun x = midway();
        x.function(0, 0, 0);
        noRun("function", x);
        x = midway();
        x.add(0, 0, 0);
        noRun("add", x);
        x = midway();
        x.change(0, 4, Op.RETURN, 0);
        noRun("change", x);
        x = midway();
        x.handler(0, 0, 0, 0);
        noRun("handler", x);
        x = midway();
        x.only(0, 1);
        noRun("only", x);
        x = midway();
        x.clear();
        noRun("clear", x);
        x = Op.done(Op.PUSH, 6, Op.RETURN, 0);
        Check.same("it has a value", x.look(1), 6);
        x.function(0, 0, 0);
        noRun("function, when it had ended", x);
    }

    private static void stillMidway(String after, StackRun x) {
        Check.same(after + ": steps", x.look(2), 3);
        Check.same(after + ": frame", x.frame(0, 1), 3);
        Check.same(after + ": on the stack", x.frame(0, 2), 2);
        Check.same(after + ": a row", x.kind(0, false, 0), 1);
        Check.same(after + ": the answer", x.value(0, false, 1), 5);
        Check.same(after + ": it was kept", x.trace(0, 4), 5);
        Check.same(after + ": it goes on", x.go(10), 2);
        Check.same(after + ": to its end", x.look(1), 9);
    }

    private static void refusedCallsLeaveTheRun() {
        StackRun x = midway();
        x.function(5, 5, 0);
        x.add(1, 0, 0);
        x.add(0, 29, 0);
        x.change(0, 5, 0, 0);
        x.change(0, 0, 29, 0);
        x.handler(0, 0, 0, 101);
        x.handler(1, 0, 0, 0);
        x.only(1, 0);
        x.go(0);
        x.go(5001);
        stillMidway("refused", x);
        x = new StackRun();
        Op.function(x, 0, 0, 0, Op.JUMP, 0);
        x.begin();
        x.go(7);
        Check.no("no handler", x.only(0, 0));
        Check.same("the run stays", x.look(2), 7);
    }

    private static void answersLeaveTheRun() {
        StackRun x = midway();
        x.answer(8);
        stillMidway("answer", x);
        x = midway();
        x.forget();
        stillMidway("forget", x);
    }
}
