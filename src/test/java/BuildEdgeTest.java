/** The edges of promises 1 to 9, one method for each sentence of the document that names one. */
public final class BuildEdgeTest {
    private static final int NONE = StackRun.NONE;
    private static final int MIN = Integer.MIN_VALUE;
    private static final int MAX = Integer.MAX_VALUE;
    // Just below, at and just above every bound of a FUNCTION's own numbers, and the far ends.
    private static final int[] SMALL = {MIN, -2, -1, 0, 1, 2, 3, 4, 5, 6, 7, 8, 9, 10, MAX};

    public static void main(String[] args) {
        newObject();
        paramsLocalsResult();
        paramsAreTaken();
        localsAreThere();
        resultIsGiven();
        eightFunctions();
        noRunAfterFunction();
        hundredInstructions();
        operationsOfAdd();
        numbersOfAdd();
        functionsOfAdd();
        instructionsOfChange();
        operationsOfChange();
        functionsOfChange();
        placesOfHandler();
        fourHandlers();
        functionsOfHandler();
        newHandlerIsForAny();
        onlyTheLast();
        onlyForAnyInt();
        onlyWithoutHandler();
        clearOfAll();
        clearOfNone();
        answersUpTo64();
        anyAnswer();
        forgetAll();
        Check.finish();
    }

    private static void newObject() {
        Check.sentence("No FUNCTIONS, no ANSWERS, no RUN");
        StackRun x = new StackRun();
        Check.same("functions", x.look(8), 0);
        Check.same("answers", x.look(9), 0);
        Check.same("go", x.go(1), NONE);
        Check.same("how it ended", x.look(0), NONE);
        for (int which = 1; which <= 7; which++) {
            Check.same("look " + which, x.look(which), 0);
        }
        Check.same("frame", x.frame(0, 0), NONE);
        Check.same("add", x.add(0, 0, 0), NONE);
        Check.same("the first function", x.function(0, 0, 0), 0);
        Check.same("the first answer", x.answer(0), 1);
        Check.same("another object has its own", new StackRun().look(8), 0);
    }

    private static void paramsLocalsResult() {
        Check.sentence("PARAMS 0 .. 4, LOCALS, PARAMS .. 8, RESULT, 1 or 0; NONE if one of these is none");
        for (int params : SMALL) {
            for (int locals : SMALL) {
                for (int result : SMALL) {
                    boolean right = 0 <= params && params <= 4 && params <= locals && locals <= 8
                            && (result == 0 || result == 1);
                    StackRun x = new StackRun();
                    Check.same("function(" + params + ", " + locals + ", " + result + ")",
                            x.function(params, locals, result), right ? 0 : NONE);
                    Check.same("functions then", x.look(8), right ? 1 : 0);
                }
            }
        }
    }

    private static void paramsAreTaken() {
        Check.sentence("PARAMS 0 .. 4");
        for (int params = 0; params <= 4; params++) {
            for (int there = 0; there <= 5; there++) {
                StackRun x = new StackRun();
                x.function(0, 0, 0);
                Op.pushes(x, 0, there, 50);
                x.add(0, Op.CALL, 1);
                x.function(params, 4, 0);
                Op.begun(x, there + 1);
                boolean enough = there >= params;
                Check.same(there + " for " + params + ": ended", x.look(0), enough ? NONE : 2);
                Check.same(there + " for " + params + ": left", x.frame(1, 2), enough ? there - params : NONE);
                for (int i = 0; i < 4 && enough; i++) {
                    Check.same("local " + i, x.value(0, true, i), i < params ? 50 + there - params + i : 0);
                }
            }
        }
    }

    private static void localsAreThere() {
        Check.sentence("LOCALS, PARAMS .. 8");
        for (int locals = 0; locals <= 8; locals++) {
            StackRun x = new StackRun();
            x.function(0, locals, 0);
            x.begin();
            for (int i = 0; i < 10; i++) {
                Check.same("local " + i + " of " + locals, x.kind(0, true, i), i < locals ? 0 : NONE);
            }
        }
    }

    private static void resultIsGiven() {
        Check.sentence("RESULT, 1 if it gives a VALUE, else 0");
        for (int result = 0; result <= 1; result++) {
            StackRun x = new StackRun();
            Op.function(x, 0, 0, result, Op.PUSH, 5, Op.RETURN, 0);
            Op.ended("a value is there, result " + result, Op.finish(x), 0, 5 * result, 2);
            x.change(0, 0, Op.JUMP, 1);
            Op.ended("none is there, result " + result, Op.finish(x), 2 * result, 0, 2);
        }
    }

    private static void eightFunctions() {
        Check.sentence("One more FUNCTION: its number; NONE if there are 8");
        StackRun x = new StackRun();
        for (int i = 0; i < 8; i++) {
            Check.same("function " + i, x.function(0, i, 0), i);
            Check.same("functions", x.look(8), i + 1);
        }
        for (int i = 0; i < 3; i++) {
            Check.same("one more than 8", x.function(0, 0, 0), NONE);
            Check.same("functions", x.look(8), 8);
        }
        Check.same("the last can be built", x.add(7, Op.LOAD, 6), 0);
        Check.same("the first can be built", x.add(0, Op.CALL, 7), 0);
        Op.begun(x, 2);
        Check.same("the last is called, its locals are its own", x.frame(0, 2), 1);
    }

    private static void noRunAfterFunction() {
        Check.sentence("There is no RUN then (if it is one; likewise of what follows, up to only())");
        for (int call = 0; call < 10; call++) {
            StackRun x = Op.program(Op.JUMP, 0);
            x.handler(0, 0, 0, 0);
            Op.begun(x, 9);
            boolean taken = call % 2 == 0;
            int wrong = taken ? 0 : 101;
            boolean done = switch (call / 2) {
                case 0 -> x.function(wrong, wrong, 0) != NONE;
                case 1 -> x.add(wrong, Op.POP, 0) != NONE;
                case 2 -> x.change(0, wrong, Op.POP, 0);
                case 3 -> x.handler(0, 0, wrong, 0);
                default -> x.only(wrong, 7);
            };
            Check.same("call " + call + " is taken", done ? 1 : 0, taken ? 1 : 0);
            Check.same("call " + call + ": go", x.go(1), taken ? NONE : 1);
            Check.same("call " + call + ": steps", x.look(2), taken ? 0 : 10);
            Check.same("call " + call + ": being done", x.look(4), taken ? 0 : 1);
        }
    }

    private static void hundredInstructions() {
        Check.sentence("One more INSTRUCTION of a FUNCTION: its number; NONE if it has 100");
        StackRun x = new StackRun();
        x.function(0, 0, 0);
        x.function(0, 0, 0);
        for (int i = 0; i < 100; i++) {
            Check.same("instruction " + i, x.add(0, Op.JUMP, 99), i);
        }
        Check.same("one more than 100", x.add(0, Op.RETURN, 0), NONE);
        Check.same("another has none yet", x.add(1, Op.RETURN, 0), 0);
        Op.begun(x, 2);
        Check.same("instruction 99 is there", x.frame(0, 1), 99);
        Check.yes("and can be changed", x.change(0, 99, Op.JUMP, 100));
        Op.ended("instruction 100 is not", Op.finish(x), 2, 0, 3);
    }

    private static void operationsOfAdd() {
        Check.sentence("NONE if operation is not 0 .. 28");
        StackRun x = new StackRun();
        x.function(0, 0, 0);
        int due = 0;
        for (int operation = -3; operation <= 32; operation++) {
            boolean right = operation >= 0 && operation <= 28;
            Check.same("add of " + operation, x.add(0, operation, 0), right ? due : NONE);
            due += right ? 1 : 0;
        }
        for (int operation : new int[] {MIN, MIN + 28, MAX, 256, 65536}) {
            Check.same("add of " + operation, x.add(0, operation, 0), NONE);
        }
        Check.same("the next number", x.add(0, 28, 0), due);
    }

    private static void numbersOfAdd() {
        Check.sentence("INSTRUCTIONS, an operation and a number each");
        for (int number : new int[] {MIN, -1, 0, 1, 255, 256, 32767, 32768, 65536, MAX}) {
            Op.ended("PUSH " + number, Op.done(Op.PUSH, number, Op.RETURN, number), 0, number, 2);
        }
    }

    private static void functionsOfAdd() {
        Check.sentence("add: NONE if there is no such FUNCTION");
        for (int functions = 0; functions <= 8; functions++) {
            StackRun x = new StackRun();
            for (int f = 0; f < functions; f++) {
                x.function(0, 0, 0);
            }
            for (int f = -2; f <= 9; f++) {
                Check.same("add to " + f + " of " + functions, x.add(f, 0, 0), f >= 0 && f < functions ? 0 : NONE);
            }
            Check.same("add to the farthest", x.add(MAX, 0, 0), NONE);
            Check.same("add to the farthest", x.add(MIN, 0, 0), NONE);
        }
    }

    private static void instructionsOfChange() {
        Check.sentence("INSTRUCTION i of it becomes this: true; false if there is none such");
        for (int size : new int[] {0, 1, 2, 99, 100}) {
            StackRun x = new StackRun();
            x.function(0, 0, 0);
            for (int i = 0; i < size; i++) {
                x.add(0, Op.JUMP, i);
            }
            for (int i : new int[] {MIN, -1, 0, 1, 2, 98, 99, 100, 101, MAX}) {
                Check.same("change of " + i + " of " + size, x.change(0, i, Op.JUMP, i) ? 1 : 0,
                        i >= 0 && i < size ? 1 : 0);
            }
            Check.same("it has no more than before", x.add(0, Op.POP, 0), size < 100 ? size : NONE);
        }
        StackRun x = Op.program(Op.PUSH, 1, Op.PUSH, 2, Op.SUB, 0, Op.RETURN, 0);
        x.change(0, 0, Op.PUSH, 30);
        Op.ended("the first alone becomes this", Op.finish(x), 0, 28, 4);
        x.change(0, 2, Op.ADD, 0);
        Op.ended("another alone", Op.finish(x), 0, 32, 4);
        x.change(0, 3, Op.THROW, 0);
        Op.ended("the last alone", Op.finish(x), 1, 32, 4);
    }

    private static void operationsOfChange() {
        Check.sentence("false if operation is not 0 .. 28");
        StackRun x = Op.program(Op.PUSH, 6, Op.RETURN, 0);
        for (int operation = -3; operation <= 32; operation++) {
            Check.same("change to " + operation, x.change(0, 0, operation, 7) ? 1 : 0,
                    operation >= 0 && operation <= 28 ? 1 : 0);
        }
        Op.ended("it is what it last became, THROW", Op.finish(x), 2, 0, 1);
        x.change(0, 0, Op.PUSH, MIN);
        for (int operation : new int[] {MIN, -1, 29, MAX}) {
            Check.no("change to " + operation, x.change(0, 0, operation, 8));
        }
        Op.ended("neither operation nor number became another", Op.finish(x), 0, MIN, 2);
    }

    private static void functionsOfChange() {
        Check.sentence("change: false if there is none such");
        for (int functions = 0; functions <= 8; functions++) {
            StackRun x = new StackRun();
            for (int f = 0; f < functions; f++) {
                Op.function(x, 0, 0, 0, Op.POP, 0);
            }
            for (int f : new int[] {MIN, -1, 0, 1, 2, 3, 4, 5, 6, 7, 8, 9, MAX}) {
                Check.same("change in " + f + " of " + functions, x.change(f, 0, 0, 0) ? 1 : 0,
                        f >= 0 && f < functions ? 1 : 0);
            }
        }
    }

    private static void placesOfHandler() {
        Check.sentence("false if one of these is not 0 .. 100");
        int[] places = {MIN, -2, -1, 0, 1, 99, 100, 101, 102, 256, MAX};
        for (int from : places) {
            for (int to : places) {
                for (int target : places) {
                    StackRun x = new StackRun();
                    x.function(0, 0, 0);
                    boolean right = isPlace(from) && isPlace(to) && isPlace(target);
                    Check.same("handler(0, " + from + ", " + to + ", " + target + ")",
                            x.handler(0, from, to, target) ? 1 : 0, right ? 1 : 0);
                    Check.same("there is one then", x.only(0, 1) ? 1 : 0, right ? 1 : 0);
                }
            }
        }
    }

    private static boolean isPlace(int i) {
        return 0 <= i && i <= 100;
    }

    private static void fourHandlers() {
        Check.sentence("One more HANDLER: true; false if it has 4");
        // Each of the first four takes one code; a fifth would take every one.
        StackRun x = Op.program(Op.PUSH, 0, Op.THROW, 0, Op.RETURN, 0, Op.RETURN, 0, Op.RETURN, 0, Op.RETURN, 0);
        for (int h = 0; h < 4; h++) {
            Check.yes("handler " + h, x.handler(0, 0, 100, 2 + h));
            Check.yes("only", x.only(0, 10 + h));
        }
        for (int i = 0; i < 3; i++) {
            Check.no("one more than 4", x.handler(0, 0, 100, 5));
        }
        for (int code = 9; code <= 14; code++) {
            x.change(0, 0, Op.PUSH, code);
            Op.begun(x, 2);
            boolean taken = code >= 10 && code <= 13;
            Check.same("code " + code + " goes on at", x.frame(0, 1), taken ? code - 8 : NONE);
            Check.same("code " + code + " ends it", x.look(0), taken ? NONE : 1);
        }
        x.function(0, 0, 0);
        for (int h = 0; h < 5; h++) {
            Check.same("another function has its own", x.handler(1, 0, 0, 0) ? 1 : 0, h < 4 ? 1 : 0);
        }
    }

    private static void functionsOfHandler() {
        Check.sentence("handler: false if there is no such FUNCTION");
        for (int functions = 0; functions <= 8; functions++) {
            StackRun x = new StackRun();
            for (int f = 0; f < functions; f++) {
                x.function(0, 0, 0);
            }
            for (int f : new int[] {MIN, -1, 0, 1, 2, 3, 4, 5, 6, 7, 8, 9, MAX}) {
                boolean there = f >= 0 && f < functions;
                Check.same("handler of " + f + " of " + functions, x.handler(f, 0, 1, 2) ? 1 : 0, there ? 1 : 0);
                Check.same("only of " + f + " of " + functions, x.only(f, 3) ? 1 : 0, there ? 1 : 0);
            }
        }
    }

    private static void newHandlerIsForAny() {
        Check.sentence("One more HANDLER, for any code");
        for (int code : new int[] {MIN, -1, 0, 1, 2, 3, 4, 5, MAX}) {
            StackRun x = Op.program(Op.PUSH, code, Op.THROW, 0, Op.RETURN, 0);
            x.handler(0, 1, 1, 0);
            x.only(0, 77);
            x.handler(0, 1, 2, 2);
            Op.ended("code " + code, Op.finish(x), 0, code, 3);
            // The FUNCTION that comes after clear() knows nothing of the codes of the one before.
            x.clear();
            Op.function(x, 0, 0, 1, Op.PUSH, code, Op.THROW, 0, Op.RETURN, 0);
            x.handler(0, 1, 2, 2);
            Op.ended("code " + code + " after clear", Op.finish(x), 0, code, 3);
        }
    }

    private static void onlyTheLast() {
        Check.sentence("The last HANDLER of a FUNCTION is for this code alone: true");
        for (int handlers = 1; handlers <= 4; handlers++) {
            StackRun x = Op.program(Op.PUSH, 5, Op.THROW, 0, Op.RETURN, 0, Op.POP, 0, Op.PUSH, 66, Op.RETURN, 0);
            for (int h = 1; h < handlers; h++) {
                x.handler(0, 1, 2, 2);
            }
            x.handler(0, 1, 2, 3);
            Check.yes("only", x.only(0, 6));
            boolean others = handlers > 1;
            Op.ended("code 5 of " + handlers, Op.finish(x), others ? 0 : 1, 5, others ? 3 : 2);
            x.change(0, 0, Op.PUSH, 6);
            Op.ended("code 6 of " + handlers, Op.finish(x), 0, others ? 6 : 66, others ? 3 : 5);
        }
    }

    private static void onlyForAnyInt() {
        Check.sentence("is for this code alone");
        int[] codes = {MIN, MIN + 1, -2, -1, 0, 1, 2, 255, 256, MAX - 1, MAX};
        StackRun x = Op.program(Op.PUSH, 0, Op.THROW, 0, Op.RETURN, 0);
        x.handler(0, 0, 100, 2);
        for (int code : codes) {
            Check.yes("only " + code, x.only(0, code));
            for (int near = -1; near <= 1; near++) {
                x.change(0, 0, Op.PUSH, code + near);
                Op.finish(x);
                Check.same("only " + code + " of " + (code + near), x.look(0), near == 0 ? 0 : 1);
            }
        }
    }

    private static void onlyWithoutHandler() {
        Check.sentence("only: false if there is none");
        StackRun x = new StackRun();
        Check.no("no function", x.only(0, 1));
        x.function(0, 0, 0);
        x.function(0, 0, 0);
        Check.no("no handler", x.only(0, 1));
        Check.no("a handler that was refused is none", x.handler(0, 0, 0, 101) || x.only(0, 1));
        x.handler(0, 0, 0, 0);
        Check.yes("one", x.only(0, 1));
        Check.no("of another function", x.only(1, 1));
        for (int f : new int[] {MIN, -1, 2, 8, MAX}) {
            Check.no("no function " + f, x.only(f, 1));
        }
        x.clear();
        x.function(0, 0, 0);
        Check.no("what was cleared is none", x.only(0, 1));
    }

    private static void clearOfAll() {
        Check.sentence("No FUNCTIONS, no RUN. (ANSWERS stay.)");
        StackRun x = new StackRun();
        for (int f = 0; f < 8; f++) {
            Op.function(x, 0, 0, 1, Op.HOST, 0, Op.RETURN, 0);
        }
        x.answer(41);
        x.answer(42);
        Op.begun(x, 1);
        x.clear();
        Check.same("functions", x.look(8), 0);
        Check.same("no run", x.look(4), 0);
        Check.same("no run to go", x.go(1), NONE);
        Check.same("answers", x.look(9), 2);
        x.begin();
        Check.same("a run of nothing", x.go(5), 1);
        Check.same("is broken", x.look(0), 2);
        x.clear();
        for (int f = 0; f < 8; f++) {
            Check.same("eight anew", x.function(0, 0, 1), f);
            Check.same("none of their instructions is left", x.change(f, 0, 0, 0) ? 1 : 0, 0);
        }
        Check.same("no ninth", x.function(0, 0, 0), NONE);
        x.add(0, Op.HOST, 0);
        x.add(0, Op.RETURN, 0);
        Op.ended("the first answer stayed", Op.finish(x), 0, 41, 2);
    }

    private static void clearOfNone() {
        Check.sentence("No FUNCTIONS, no RUN");
        StackRun x = new StackRun();
        x.clear();
        Check.same("nothing to clear", x.look(8), 0);
        x.begin();
        x.go(1);
        Check.same("an ended run", x.look(0), 2);
        x.clear();
        Check.same("it is gone", x.look(0), NONE);
        Check.same("its steps are gone", x.look(2), 0);
        Check.same("nothing to go", x.go(1), NONE);
    }

    private static void answersUpTo64() {
        Check.sentence("One more ANSWER: how many there are; NONE if there are 64");
        StackRun x = Op.program(Op.HOST, 0, Op.POP, 0, Op.JUMP, 0);
        for (int n = 1; n <= 64; n++) {
            Check.same("answer " + n, x.answer(100 + n), n);
        }
        Check.same("a 65th", x.answer(165), NONE);
        Check.same("a 65th", x.answer(165), NONE);
        Check.same("how many", x.look(9), 64);
        x.begin();
        for (int n = 1; n <= 66; n++) {
            x.go(1);
            Check.same("answered " + n, x.value(0, false, 0), n <= 64 ? 100 + n : 0);
            x.go(2);
        }
    }

    private static void anyAnswer() {
        Check.sentence("One more ANSWER");
        for (int v : new int[] {MIN, -1, 0, 1, MAX}) {
            StackRun x = Op.program(Op.HOST, 0, Op.RETURN, 0);
            Check.same("answer " + v, x.answer(v), 1);
            Op.ended("answered " + v, Op.finish(x), 0, v, 2);
        }
    }

    private static void forgetAll() {
        Check.sentence("No ANSWERS");
        for (int n : new int[] {0, 1, 64}) {
            StackRun x = Op.program(Op.HOST, 0, Op.RETURN, 0);
            for (int i = 0; i < n; i++) {
                x.answer(9);
            }
            x.forget();
            Check.same("of " + n, x.look(9), 0);
            Check.same("functions stay", x.look(8), 1);
            Op.ended("none is left of " + n, Op.finish(x), 0, 0, 2);
            for (int i = 1; i <= 64; i++) {
                Check.same("anew", x.answer(i), i);
            }
            Check.same("a 65th", x.answer(0), NONE);
        }
    }
}
