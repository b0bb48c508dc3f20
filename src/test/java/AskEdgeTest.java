/** The edges of promises 10 to 17, one method for each sentence of the document that names one. */
public final class AskEdgeTest {
    private static final int NONE = StackRun.NONE;
    private static final int MIN = Integer.MIN_VALUE;
    private static final int MAX = Integer.MAX_VALUE;

    public static void main(String[] args) {
        beginAtAnyTime();
        goOneToFiveThousand();
        goUntilTheEnd();
        goWithoutRun();
        frameOfEach();
        frameWhat();
        frameNext();
        frameOfCall();
        frameStack();
        valueOnTheStack();
        valueOfLocal();
        valueOfRow();
        valueOfNone();
        kindOfRows();
        kindOfNone();
        rowThatThereIs();
        rowThatThereIsNot();
        rowsOfTheRun();
        traceOfTheFirst64();
        traceWhat();
        traceOfNone();
        lookHowItEnded();
        lookValue();
        lookCounts();
        lookMost();
        lookWithoutRun();
        lookWhich();
        Check.finish();
    }

    private static void beginAtAnyTime() {
        Check.sentence("A RUN begins");
        int[] due = {NONE, 0, 0, 0, 1, 1, 0, 0, 2, 1};
        for (int steps : new int[] {0, 1, 3, 6, 7, 5000}) {
            StackRun x = Op.program(Op.PUSH, 5, Op.NEW, 0, Op.HOST, 0, Op.PUSH, 1, Op.STORE, 1, Op.CALL, 1);
            Op.function(x, 0, 0, 0, Op.PUSH, 8, Op.THROW, 0);
            x.answer(6);
            for (int times = 0; times < 2; times++) {
                x.begin();
                for (int which = 0; which < due.length; which++) {
                    Check.same("look " + which + " after " + steps, x.look(which), due[which]);
                }
                Check.same("local after " + steps, x.value(0, true, 1), 0);
                Check.same("trace after " + steps, x.trace(0, 4), 0);
                Check.same("row after " + steps, x.kind(0, false, 0), NONE);
                if (steps > 0) {
                    x.go(steps);
                }
            }
        }
    }

    private static void goOneToFiveThousand() {
        Check.sentence("Up to n STEPS, 1 .. 5000: how many; NONE if n is none");
        StackRun x = Op.program(Op.JUMP, 0);
        x.begin();
        int steps = 0;
        for (int n : new int[] {MIN, -5000, -1, 0, 1, 2, 4999, 5000, 5001, 5002, 10000, 65537, MAX}) {
            boolean right = n >= 1 && n <= 5000;
            Check.same("go(" + n + ")", x.go(n), right ? n : NONE);
            steps += right ? n : 0;
            Check.same("steps after go(" + n + ")", x.look(2), steps);
        }
    }

    private static void goUntilTheEnd() {
        Check.sentence("Up to n STEPS, until the RUN ENDS: how many");
        // Four STEPS, ended by RETURN, by a code and by what is broken.
        for (int last : new int[] {Op.RETURN, Op.THROW, Op.SIZE}) {
            for (int n : new int[] {1, 2, 3, 4, 5, 5000}) {
                StackRun x = Op.program(Op.PUSH, 1, Op.PUSH, 2, Op.ADD, 0, last, 0, Op.JUMP, 4);
                x.begin();
                int left = 4;
                for (int times = 0; times < 6; times++) {
                    int due = Math.min(n, left);
                    Check.same("go(" + n + ") with " + left + " left", x.go(n), due);
                    left -= due;
                    Check.same("it has ended", x.look(0) == NONE ? 0 : 1, left == 0 ? 1 : 0);
                }
                Check.same("steps", x.look(2), 4);
                Check.same("go(0) after the end", x.go(0), NONE);
                Check.same("go(5001) after the end", x.go(5001), NONE);
            }
        }
    }

    private static void goWithoutRun() {
        Check.sentence("NONE if there is no RUN");
        StackRun x = new StackRun();
        for (int n : new int[] {0, 1, 5000, 5001}) {
            Check.same("on a new object", x.go(n), NONE);
        }
        Op.function(x, 0, 0, 0, Op.JUMP, 0);
        Check.same("of a program that is not begun", x.go(1), NONE);
        Op.begun(x, 1);
        x.add(0, Op.POP, 0);
        Check.same("of a changed program", x.go(1), NONE);
        Op.begun(x, 1);
        x.clear();
        Check.same("of a cleared one", x.go(1), NONE);
        Check.same("no steps", x.look(2), 0);
    }

    /** FUNCTION f puts f and calls the next one, up to 7, which calls itself. */
    private static StackRun deep(int frames) {
        StackRun x = new StackRun();
        for (int f = 0; f < 8; f++) {
            Op.function(x, 0, f, 0, Op.PUSH, f, Op.CALL, Math.min(f + 1, 7));
        }
        return Op.begun(x, 2 * (frames - 1));
    }

    private static void frameOfEach() {
        Check.sentence("Of the FUNCTION that is being done, k below the latest one (0); NONE if there is none such");
        for (int frames = 1; frames <= 20; frames++) {
            StackRun x = deep(frames);
            Check.same("being done", x.look(4), frames);
            for (int k : new int[] {MIN, -20, -1, 0, 1, 2, 7, 8, 18, 19, 20, 21, MAX}) {
                boolean there = k >= 0 && k < frames;
                Check.same("frame " + k + " of " + frames, x.frame(k, 0),
                        there ? Math.min(frames - 1 - k, 7) : NONE);
                Check.same("next of " + k + " of " + frames, x.frame(k, 1), !there ? NONE : k == 0 ? 0 : 1);
                Check.same("stack of " + k + " of " + frames, x.frame(k, 2), !there ? NONE : k == 0 ? 0 : 1);
            }
        }
    }

    private static void frameWhat() {
        Check.sentence("what 0, 1, 2; NONE if no such what");
        StackRun x = deep(2);
        x.go(1);
        for (int k = 0; k < 2; k++) {
            for (int what : new int[] {MIN, -1, 3, 4, MAX}) {
                Check.same("what " + what + " of " + k, x.frame(k, what), NONE);
            }
        }
        Check.same("what 0", x.frame(0, 0), 1);
        Check.same("what 1", x.frame(0, 1), 1);
        Check.same("what 2", x.frame(0, 2), 1);
    }

    private static void frameNext() {
        Check.sentence("1: the INSTRUCTION that is next");
        StackRun x = new StackRun();
        Op.function(x, 0, 0, 0, Op.PUSH, 0, Op.IF, 0, Op.PUSH, 1, Op.IF, 5, Op.POP, 0, Op.JUMP, 2);
        x.begin();
        int[] due = {0, 1, 2, 3, 5, 2, 3, 5, 2};
        for (int steps = 0; steps < due.length; steps++) {
            Check.same("after " + steps, x.frame(0, 1), due[steps]);
            x.go(1);
        }
        Check.same("behind the last one, which is not there", Op.begun(Op.program(Op.PUSH, 1), 1).frame(0, 1), 1);
    }

    private static void frameOfCall() {
        Check.sentence("(of one that has called, the CALL)");
        StackRun x = Op.program(Op.JUMP, 2, Op.POP, 0, Op.CALL, 1, Op.POP, 0);
        Op.function(x, 0, 0, 0, Op.JUMP, 1, Op.RETURN, 0);
        Op.begun(x, 2);
        Check.same("it has called", x.frame(1, 1), 2);
        x.go(1);
        Check.same("it has called still", x.frame(1, 1), 2);
        x.go(1);
        Check.same("the called one has returned", x.frame(0, 1), 3);
    }

    private static void frameStack() {
        Check.sentence("2: how many are on its STACK");
        StackRun x = new StackRun();
        x.function(0, 0, 0);
        Op.pushes(x, 0, 16, 1);
        for (int i = 0; i < 16; i++) {
            x.add(0, Op.POP, 0);
        }
        x.begin();
        for (int steps = 0; steps <= 32; steps++) {
            Check.same("after " + steps, x.frame(0, 2), steps <= 16 ? steps : 32 - steps);
            if (steps < 32) {
                x.go(1);
            }
        }
    }

    private static void valueOnTheStack() {
        Check.sentence("Of VALUE i on the STACK of that, from below, 0 .. (locals false): an INT");
        StackRun x = new StackRun();
        x.function(0, 8, 0);
        Op.pushes(x, 0, 16, 300);
        x.add(0, Op.CALL, 1);
        x.function(0, 8, 0);
        Op.pushes(x, 1, 3, 400);
        Op.begun(x, 20);
        for (int i : new int[] {MIN, -1, 0, 1, 2, 3, 8, 14, 15, 16, 17, MAX}) {
            Check.same("value " + i + " of the upper", x.value(0, false, i), i >= 0 && i < 3 ? 400 + i : 0);
            Check.same("value " + i + " of the lower", x.value(1, false, i), i >= 0 && i < 16 ? 300 + i : 0);
            Check.same("kind " + i + " of the upper", x.kind(0, false, i), i >= 0 && i < 3 ? 0 : NONE);
            Check.same("kind " + i + " of the lower", x.kind(1, false, i), i >= 0 && i < 16 ? 0 : NONE);
        }
    }

    private static void valueOfLocal() {
        Check.sentence("or LOCAL i: an INT");
        StackRun x = new StackRun();
        x.function(0, 8, 0);
        for (int i = 0; i < 8; i++) {
            x.add(0, Op.PUSH, 600 + i);
            x.add(0, Op.STORE, i);
        }
        Op.pushes(x, 0, 2, 700);
        x.add(0, Op.CALL, 1);
        x.function(2, 3, 0);
        Op.begun(x, 19);
        int[] own = {700, 701, 0};
        for (int i : new int[] {MIN, -1, 0, 1, 2, 3, 7, 8, 9, 16, MAX}) {
            Check.same("local " + i + " of the upper", x.value(0, true, i), i >= 0 && i < 3 ? own[i] : 0);
            Check.same("local " + i + " of the lower", x.value(1, true, i), i >= 0 && i < 8 ? 600 + i : 0);
            Check.same("kind " + i + " of the upper", x.kind(0, true, i), i >= 0 && i < 3 ? 0 : NONE);
            Check.same("kind " + i + " of the lower", x.kind(1, true, i), i >= 0 && i < 8 ? 0 : NONE);
        }
    }

    private static void valueOfRow() {
        Check.sentence("of a ROW how many INTS it has");
        for (int n : new int[] {0, 1, 63, 64}) {
            StackRun x = Op.program(Op.PUSH, n, Op.NEW, 0, Op.DUP, 0, Op.STORE, 1);
            Op.begun(x, 4);
            Check.same("on the stack, of " + n, x.value(0, false, 0), n);
            Check.same("as a local, of " + n, x.value(0, true, 1), n);
            Check.same("it is a row", x.kind(0, false, 0), 1);
            Check.same("it is a row", x.kind(0, true, 1), 1);
        }
    }

    private static void valueOfNone() {
        Check.sentence("0 if there is none such");
        StackRun x = Op.program(Op.PUSH, 5, Op.STORE, 0, Op.PUSH, 6, Op.PUSH, 7, Op.POP, 0);
        Op.begun(x, 5);
        Check.same("one that was taken", x.value(0, false, 1), 0);
        for (int k : new int[] {MIN, -1, 1, 19, 20, MAX}) {
            Check.same("value of " + k, x.value(k, false, 0), 0);
            Check.same("local of " + k, x.value(k, true, 0), 0);
        }
        x.go(1);
        Check.same("of a run that has ended", x.value(0, false, 0), 0);
        Check.same("a local of it", x.value(0, true, 0), 0);
    }

    private static void kindOfRows() {
        Check.sentence("1 + the number of its ROW (in the order in which they were made, from 0 on) else");
        StackRun x = Op.program(Op.PUSH, 0, Op.NEW, 0, Op.STORE, 0, Op.PUSH, 0, Op.NEW, 0, Op.STORE, 1, Op.JUMP, 3);
        Op.begun(x, 3);
        for (int made = 1; made <= 60; made++) {
            Check.same("the first", x.kind(0, true, 0), 1);
            x.go(made == 1 ? 3 : 4);
            Check.same("the latest", x.kind(0, true, 1), 1 + made);
        }
        x.go(4 * (499 - 60));
        Check.same("the last of 500", x.kind(0, true, 1), 500);
        Check.same("rows", x.look(6), 500);
        Op.begun(x, 3);
        Check.same("from 0 on in each run", x.kind(0, true, 0), 1);
    }

    private static void kindOfNone() {
        Check.sentence("0 if it is an INT; NONE if there is none such");
        StackRun x = Op.program(Op.PUSH, 5, Op.NEW, 0, Op.STORE, 0, Op.PUSH, 6, Op.PUSH, 7, Op.POP, 0);
        Op.begun(x, 6);
        Check.same("an int", x.kind(0, false, 0), 0);
        Check.same("a row", x.kind(0, true, 0), 1);
        Check.same("one that was taken", x.kind(0, false, 1), NONE);
        for (int i : new int[] {MIN, -1, 2, 8, 16, MAX}) {
            Check.same("kind " + i, x.kind(0, false, i), NONE);
            Check.same("kind of local " + i, x.kind(0, true, i), NONE);
        }
        for (int k : new int[] {MIN, -1, 1, 19, 20, MAX}) {
            Check.same("kind of " + k, x.kind(k, false, 0), NONE);
            Check.same("kind of a local of " + k, x.kind(k, true, 0), NONE);
        }
        x.go(1);
        Check.same("of a run that has ended", x.kind(0, true, 0), NONE);
    }

    /** ROWS of 2, 0 and 3 INTS, none of them 0, one behind the other. */
    private static StackRun threeRows() {
        return Op.begun(Op.program(Op.PUSH, 2, Op.NEW, 0, Op.STORE, 0, Op.LOAD, 0, Op.PUSH, 0, Op.PUSH, 10, Op.PUT, 0,
                Op.LOAD, 0, Op.PUSH, 1, Op.PUSH, 11, Op.PUT, 0, Op.PUSH, 0, Op.NEW, 0, Op.STORE, 1, Op.PUSH, 3,
                Op.NEW, 0, Op.STORE, 1, Op.LOAD, 1, Op.PUSH, 0, Op.PUSH, 20, Op.PUT, 0, Op.LOAD, 1, Op.PUSH, 1,
                Op.PUSH, MIN, Op.PUT, 0, Op.LOAD, 1, Op.PUSH, 2, Op.PUSH, MAX, Op.PUT, 0, Op.PUSH, 0, Op.RETURN, 0),
                29);
    }

    private static void rowThatThereIs() {
        Check.sentence("INT i of a ROW of the RUN");
        int[][] due = {{10, 11}, {}, {20, MIN, MAX}};
        StackRun x = threeRows();
        for (int times = 0; times < 2; times++) {
            for (int r = 0; r < 3; r++) {
                for (int i = 0; i < due[r].length; i++) {
                    Check.same("row " + r + " at " + i, x.row(r, i), due[r][i]);
                }
            }
            x.go(5);
            Check.same("ended, and asked once more", x.look(0), 0);
        }
    }

    private static void rowThatThereIsNot() {
        Check.sentence("row: 0 if there is none such");
        StackRun x = threeRows();
        int[] sizes = {2, 0, 3};
        for (int r = 0; r < 3; r++) {
            for (int i : new int[] {MIN, -3, -2, -1, sizes[r], sizes[r] + 1, sizes[r] + 2, 63, 64, 1024, MAX}) {
                Check.same("row " + r + " at " + i, x.row(r, i), 0);
            }
        }
        for (int r : new int[] {MIN, -1, 3, 4, 499, 500, 501, MAX}) {
            for (int i = -1; i <= 5; i++) {
                Check.same("row " + r + " at " + i, x.row(r, i), 0);
            }
        }
    }

    private static void rowsOfTheRun() {
        Check.sentence("a ROW of the RUN");
        StackRun x = threeRows();
        x.begin();
        Check.same("none in a new run", x.row(0, 0), 0);
        x.go(2);
        Check.same("a new one is 0", x.row(0, 1), 0);
        x = threeRows();
        x.add(0, Op.POP, 0);
        Check.same("none without a run", x.row(0, 0), 0);
        x = threeRows();
        x.clear();
        Check.same("none without a run", x.row(2, 2), 0);
        // The last of 500, and one INT in each of them.
        x = Op.program(Op.PUSH, 1, Op.NEW, 0, Op.PUSH, 0, Op.LOAD, 0, Op.PUSH, 1, Op.ADD, 0, Op.DUP, 0, Op.STORE, 0,
                Op.PUT, 0, Op.JUMP, 0);
        x.begin();
        x.go(5000);
        Check.same("rows", x.look(6), 500);
        for (int r : new int[] {0, 1, 63, 64, 255, 256, 498, 499}) {
            Check.same("row " + r, x.row(r, 0), r + 1);
            Check.same("row " + r + " has one", x.row(r, 1), 0);
        }
        Check.same("no row 500", x.row(500, 0), 0);
    }

    /** CALL OUTSIDE i has the INT 1000 + i; 64 ANSWERS, 2000 + i. */
    private static StackRun outside(int calls) {
        StackRun x = Op.program(Op.PUSH, 999, Op.STORE, 0, Op.LOAD, 0, Op.PUSH, 1, Op.ADD, 0, Op.DUP, 0, Op.STORE, 0,
                Op.HOST, 5, Op.STORE, 1, Op.JUMP, 2);
        for (int i = 0; i < 64; i++) {
            x.answer(2000 + i);
        }
        return calls == 0 ? Op.begun(x, 0) : Op.begun(x, 8 * calls);
    }

    private static void traceOfTheFirst64() {
        Check.sentence("Of CALL OUTSIDE i of the RUN, from 0 on (the first 64 are kept); 0 if it is not kept");
        for (int calls : new int[] {0, 1, 2, 63, 64, 65, 66, 600}) {
            StackRun x = outside(calls);
            Check.same("calls outside", x.look(3), calls);
            for (int i : new int[] {MIN, -1, 0, 1, 2, 31, 62, 63, 64, 65, 66, 599, 600, MAX}) {
                boolean kept = i >= 0 && i < calls && i < 64;
                Check.same(i + " of " + calls + ": its number", x.trace(i, 0), kept ? 5 : 0);
                Check.same(i + " of " + calls + ": its int", x.trace(i, 1), kept ? 1000 + i : 0);
                Check.same(i + " of " + calls + ": its answer", x.trace(i, 4), kept ? 2000 + i : 0);
            }
        }
    }

    private static void traceWhat() {
        Check.sentence("what 0: its number, 1 .. 3: its INTS (0 if it has none such), 4: its ANSWER. 0 if no such what");
        for (int v = 0; v < 16; v++) {
            // The calls before and behind have all that a call can have, so that nothing of theirs is 0.
            StackRun x = Op.program(Op.PUSH, 1, Op.PUSH, 2, Op.PUSH, 3, Op.HOST, 15, Op.PUSH, 4, Op.PUSH, 5,
                    Op.PUSH, 6, Op.HOST, v, Op.PUSH, 7, Op.PUSH, 8, Op.PUSH, 9, Op.HOST, 15);
            for (int n = 1; n <= 3; n++) {
                x.answer(-n);
            }
            Op.begun(x, 12);
            int n = v % 4;
            int[] due = {v, n > 0 ? 7 - n : 0, n > 1 ? 8 - n : 0, n > 2 ? 6 : 0, -2};
            for (int what : new int[] {MIN, -5, -1, 0, 1, 2, 3, 4, 5, 6, 9, MAX}) {
                Check.same("what " + what + " of HOST " + v, x.trace(1, what), what >= 0 && what < 5 ? due[what] : 0);
            }
            Check.same("the one before", x.trace(0, 4), -1);
            Check.same("the one behind", x.trace(2, 0), 15);
        }
    }

    private static void traceOfNone() {
        Check.sentence("trace: 0 if there is none such");
        StackRun x = outside(3);
        x.begin();
        Check.same("none in a new run", x.trace(0, 0), 0);
        x.go(8);
        Check.same("the first of the new run", x.trace(0, 1), 1000);
        Check.same("the second is not there yet", x.trace(1, 1), 0);
        x.forget();
        Check.same("it is kept as it was answered", x.trace(0, 4), 2000);
        x.add(0, Op.POP, 0);
        Check.same("none without a run", x.trace(0, 1), 0);
        x = Op.done(Op.PUSH, 4, Op.HOST, 1, Op.RETURN, 0);
        Check.same("kept after the end", x.trace(0, 1), 4);
    }

    private static void lookHowItEnded() {
        Check.sentence("which 0: how it ended (NONE if it has not, or there is none)");
        StackRun x = Op.program(Op.PUSH, 1, Op.RETURN, 0);
        Check.same("there is none", x.look(0), NONE);
        Op.begun(x, 0);
        Check.same("it has not", x.look(0), NONE);
        x.go(1);
        Check.same("it has not", x.look(0), NONE);
        x.go(1);
        Check.same("by RETURN", x.look(0), 0);
        x.change(0, 1, Op.THROW, 0);
        Check.same("there is none any more", x.look(0), NONE);
        Check.same("by a code", Op.finish(x).look(0), 1);
        x.change(0, 1, Op.GET, 0);
        Check.same("by what is broken", Op.finish(x).look(0), 2);
        x.begin();
        Check.same("it has not, anew", x.look(0), NONE);
    }

    private static void lookValue() {
        Check.sentence("1: its VALUE, an INT (0 if it has none, of a ROW how many INTS it has)");
        StackRun x = Op.program(Op.PUSH, MIN, Op.RETURN, 0, Op.RETURN, 0);
        Op.begun(x, 1);
        Check.same("it has none yet", x.look(1), 0);
        x.go(1);
        Check.same("an int", x.look(1), MIN);
        x.begin();
        Check.same("none anew", x.look(1), 0);
        x.change(0, 1, Op.NEW, 0);
        Check.same("none without a run", x.look(1), 0);
        Check.same("a code", Op.finish(x).look(1), 3);
        for (int n : new int[] {0, 1, 64}) {
            x.change(0, 0, Op.PUSH, n);
            Check.same("a row of " + n, Op.finish(x).look(1), n);
        }
        x.change(0, 2, Op.ADD, 0);
        Check.same("none when it is broken", Op.finish(x).look(1), 0);
        x.clear();
        Op.function(x, 0, 0, 0, Op.PUSH, 9, Op.RETURN, 0);
        Check.same("none when no result is given", Op.finish(x).look(1), 0);
    }

    private static void lookCounts() {
        Check.sentence("2: STEPS, 3: CALLS OUTSIDE, 4: FUNCTIONS that are being done, 6: ROWS, 7: INTS of all of them");
        StackRun x = Op.program(Op.PUSH, 3, Op.NEW, 0, Op.HOST, 0, Op.CALL, 1, Op.PUSH, 0, Op.NEW, 0, Op.POP, 0,
                Op.RETURN, 0);
        Op.function(x, 0, 0, 0, Op.PUSH, 4, Op.NEW, 0, Op.HOST, 8, Op.RETURN, 0);
        int[][] due = {
            {0, 0, 1, 0, 0}, {1, 0, 1, 0, 0}, {2, 0, 1, 1, 3}, {3, 1, 1, 1, 3}, {4, 1, 2, 1, 3}, {5, 1, 2, 1, 3},
            {6, 1, 2, 2, 7}, {7, 2, 2, 2, 7}, {8, 2, 1, 2, 7}, {9, 2, 1, 2, 7}, {10, 2, 1, 3, 7}, {11, 2, 1, 3, 7},
            {12, 2, 0, 3, 7}, {12, 2, 0, 3, 7},
        };
        int[] which = {2, 3, 4, 6, 7};
        x.begin();
        for (int steps = 0; steps < due.length; steps++) {
            for (int w = 0; w < which.length; w++) {
                Check.same("look " + which[w] + " after " + steps, x.look(which[w]), due[steps][w]);
            }
            x.go(1);
        }
    }

    private static void lookMost() {
        Check.sentence("5: the most that were");
        StackRun x = Op.program(Op.CALL, 1, Op.CALL, 2, Op.RETURN, 0);
        Op.function(x, 0, 0, 0, Op.CALL, 2, Op.RETURN, 0);
        Op.function(x, 0, 0, 1, Op.PUSH, 1, Op.RETURN, 0);
        int[] due = {1, 2, 3, 3, 3, 3, 3, 3, 3, 3};
        x.begin();
        for (int steps = 0; steps < due.length; steps++) {
            Check.same("after " + steps, x.look(5), due[steps]);
            x.go(1);
        }
        x.begin();
        Check.same("of a new run", x.look(5), 1);
        x.change(0, 0, Op.JUMP, 1);
        Check.same("without a run", x.look(5), 0);
        Check.same("of another run", Op.finish(x).look(5), 2);
    }

    private static void lookWithoutRun() {
        Check.sentence("(2 to 7: 0 without a RUN); 8: FUNCTIONS, 9: ANSWERS");
        for (int ended = 0; ended < 2; ended++) {
            StackRun x = outside(2);
            x.change(0, 7, Op.CALL, 0);
            Op.begun(x, 8);
            Check.same("there are steps", x.look(2), 8);
            Check.same("two are being done", x.look(4), 2);
            if (ended == 1) {
                x.go(5000);
            }
            x.function(0, 0, 0);
            for (int which = 2; which <= 7; which++) {
                Check.same("look " + which, x.look(which), 0);
            }
            Check.same("functions", x.look(8), 2);
            Check.same("answers", x.look(9), 64);
        }
    }

    private static void lookWhich() {
        Check.sentence("NONE for any other which");
        StackRun x = outside(2);
        for (int which : new int[] {MIN, -10, -2, -1, 10, 11, 256, MAX}) {
            Check.same("look " + which, x.look(which), NONE);
            Check.same("look " + which + " of a new object", new StackRun().look(which), NONE);
        }
    }
}
