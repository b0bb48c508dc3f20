/** The edges of what the document says of a RUN, one method for each sentence that names one. */
public final class RunEdgeTest {
    private static final int NONE = StackRun.NONE;

    public static void main(String[] args) {
        functionZeroThereOrNot();
        beginsWithNothing();
        localsOfEachThatIsBegun();
        stackOfItsOwn();
        instructionIsAStep();
        answerOfTheNth();
        answersOfEachRun();
        functionZeroReturns();
        mostCallsOfAnObject();
        Check.finish();
    }

    private static void functionZeroThereOrNot() {
        Check.sentence("A RUN begins with FUNCTION 0 (which is being done then, there or not)");
        for (int functions = 0; functions <= 2; functions++) {
            StackRun x = new StackRun();
            for (int f = 0; f < functions; f++) {
                x.function(f, 3, 0);
            }
            x.begin();
            Check.same(functions + ": being done", x.look(4), 1);
            Check.same(functions + ": the most", x.look(5), 1);
            Check.same(functions + ": its number", x.frame(0, 0), 0);
            Check.same(functions + ": none below", x.frame(1, 0), NONE);
            Check.same(functions + ": not ended", x.look(0), NONE);
            Check.same(functions + ": no steps", x.look(2), 0);
            Check.same(functions + ": a local", x.kind(0, true, 0), functions == 0 ? NONE : 0);
        }
    }

    /** FUNCTION 0 has PARAMS of its own here: no CALL gives them, so they are 0 too. */
    private static void beginsWithNothing() {
        Check.sentence("its INSTRUCTION 0, nothing on its STACK, all LOCALS the INT 0");
        StackRun x = new StackRun();
        Op.function(x, 4, 8, 0, Op.PUSH, 5, Op.NEW, 0, Op.STORE, 0, Op.PUSH, 6, Op.STORE, 7, Op.PUSH, 7);
        Op.begun(x, 6);
        for (int times = 0; times < 2; times++) {
            Op.begun(x, 0);
            Check.same("instruction", x.frame(0, 1), 0);
            Check.same("on the stack", x.frame(0, 2), 0);
            Check.same("nothing is there", x.kind(0, false, 0), NONE);
            for (int i = 0; i < 8; i++) {
                Check.same("local " + i, x.value(0, true, i), 0);
                Check.same("kind of local " + i, x.kind(0, true, i), 0);
            }
            x.go(6);
        }
    }

    private static void localsOfEachThatIsBegun() {
        Check.sentence("(so those of each FUNCTION that is begun, but its PARAMS)");
        StackRun x = new StackRun();
        Op.function(x, 0, 0, 0, Op.PUSH, 3, Op.PUSH, 4, Op.CALL, 1, Op.PUSH, 5, Op.PUSH, 6, Op.CALL, 1);
        Op.function(x, 2, 8, 0, Op.PUSH, 2, Op.NEW, 0, Op.STORE, 0, Op.PUSH, 9, Op.STORE, 2, Op.PUSH, 1, Op.NEW, 0,
                Op.STORE, 7, Op.RETURN, 0);
        Op.begun(x, 3 + 8);
        Check.same("a row in the last local", x.kind(0, true, 7), 2);
        x.go(4);
        Check.same("it is begun anew", x.frame(0, 1), 0);
        for (int i = 0; i < 8; i++) {
            Check.same("local " + i, x.value(0, true, i), i < 2 ? 5 + i : 0);
            Check.same("kind of local " + i, x.kind(0, true, i), 0);
        }
    }

    private static void stackOfItsOwn() {
        Check.sentence("Each FUNCTION that is being done has a STACK of its own");
        StackRun x = new StackRun();
        x.function(0, 0, 0);
        Op.pushes(x, 0, 16, 100);
        x.add(0, Op.CALL, 1);
        x.function(0, 0, 0);
        Op.pushes(x, 1, 16, 200);
        x.add(1, Op.RETURN, 0);
        Op.begun(x, 16 + 1 + 16);
        for (int k = 0; k < 2; k++) {
            Check.same("both are full", x.frame(k, 2), 16);
            for (int i = 0; i < 16; i++) {
                Check.same("value " + i + " of " + k, x.value(k, false, i), (k == 0 ? 200 : 100) + i);
            }
        }
        x.go(1);
        Check.same("the first is as it was", x.frame(0, 2), 16);
        Check.same("its top", x.value(0, false, 15), 115);
        x.clear();
        Op.function(x, 0, 0, 0, Op.PUSH, 1, Op.CALL, 1);
        Op.function(x, 0, 0, 0, Op.POP, 0);
        Op.ended("what another has is not there", Op.finish(x), 2, 0, 3);
    }

    private static void instructionIsAStep() {
        Check.sentence("To do an INSTRUCTION is a STEP");
        StackRun x = Op.program(Op.CALL, 1, Op.HOST, 0, Op.PUSH, 0, Op.DIV, 0, Op.CALL, 1, Op.JUMP, 6, Op.POP, 0);
        x.handler(0, 3, 4, 4);
        Op.function(x, 0, 0, 0, Op.RETURN, 0);
        int[] next = {0, 0, 1, 2, 3, 4, 0, 5, 6};
        x.begin();
        for (int steps = 1; steps <= 8; steps++) {
            Check.same("one", x.go(1), 1);
            Check.same("steps", x.look(2), steps);
            Check.same("next after " + steps, x.frame(0, 1), next[steps]);
        }
    }

    private static void answerOfTheNth() {
        Check.sentence("The ANSWER of the n-th CALL OUTSIDE of a RUN is the n-th that is given, 0 if there are fewer");
        for (int given : new int[] {0, 1, 2, 63, 64}) {
            StackRun x = Op.program(Op.HOST, 0, Op.POP, 0, Op.JUMP, 0);
            for (int n = 1; n <= given; n++) {
                x.answer(-n);
            }
            x.begin();
            for (int n = 1; n <= 66; n++) {
                x.go(n == 1 ? 1 : 3);
                Check.same("the " + n + "th of " + given, x.value(0, false, 0), n <= given ? -n : 0);
            }
            Check.same("calls outside", x.look(3), 66);
        }
    }

    /** Calls of every number and of every FUNCTION share the ANSWERS; a new RUN has them from the first on. */
    private static void answersOfEachRun() {
        Check.sentence("of a RUN");
        StackRun x = Op.program(Op.HOST, 12, Op.HOST, 1, Op.CALL, 1, Op.RETURN, 0);
        Op.function(x, 0, 0, 1, Op.HOST, 4, Op.RETURN, 0);
        for (int n = 1; n <= 4; n++) {
            x.answer(10 * n);
        }
        for (int run = 0; run < 3; run++) {
            Op.ended("the third, in each run", Op.finish(x), 0, 30, 6);
            for (int i = 0; i < 3; i++) {
                Check.same("call outside " + i, x.trace(i, 4), 10 * (i + 1));
            }
        }
    }

    private static void functionZeroReturns() {
        Check.sentence("When FUNCTION 0 RETURNS the RUN ENDS 0, with that VALUE");
        StackRun x = new StackRun();
        Op.function(x, 0, 0, 1, Op.PUSH, 5, Op.PUSH, Integer.MIN_VALUE, Op.RETURN, 0, Op.PUSH, 1);
        x.begin();
        Check.same("nothing behind it is done", x.go(9), 3);
        Op.ended("an int", x, 0, Integer.MIN_VALUE, 3);
        x.clear();
        Op.function(x, 0, 0, 0, Op.PUSH, 5, Op.RETURN, 0);
        Op.ended("no value", Op.finish(x), 0, 0, 2);
        x.clear();
        Op.function(x, 0, 0, 1, Op.PUSH, 0, Op.NEW, 0, Op.RETURN, 0);
        Op.ended("an empty row", Op.finish(x), 0, 0, 3);
        x.change(0, 0, Op.PUSH, 64);
        Op.ended("the longest row", Op.finish(x), 0, 64, 3);
    }

    private static void mostCallsOfAnObject() {
        Check.sentence("An object is used for at most 512 calls");
        StackRun x = Op.program(Op.HOST, 0, Op.STORE, 0, Op.JUMP, 0);
        x.begin();
        int calls = 5;
        for (; calls < 510; calls++) {
            Check.same("call " + calls, x.go(5000), 5000);
        }
        Check.same("steps", x.look(2), (510 - 5) * 5000);
        Check.same("calls outside", x.look(3), ((510 - 5) * 5000 + 2) / 3);
    }
}
