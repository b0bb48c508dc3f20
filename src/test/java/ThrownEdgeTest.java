/** The edges of what is THROWN and what HANDLERS take, one method for each piece that names one. */
public final class ThrownEdgeTest {
    private static final int NONE = StackRun.NONE;
    private static final int MIN = Integer.MIN_VALUE;
    private static final int MAX = Integer.MAX_VALUE;

    public static void main(String[] args) {
        divisorOfZero();
        getWhereTheRowHasNothing();
        putWhereTheRowHasNothing();
        belowZero();
        above64();
        fiveHundredRows();
        moreThan1024Ints();
        exactly1024Ints();
        rowThatIsRefused();
        twentyFunctions();
        twentyAgainAfterReturn();
        anyByThrow();
        firstHandler();
        fromNotAbove();
        toAbove();
        lastInstruction();
        anyCodeOrThisOne();
        codeAlone();
        goesOnAtTarget();
        doneNoMore();
        thrownByTheCall();
        noneForFunctionZero();
        Check.finish();
    }

    private static void divisorOfZero() {
        Check.sentence("1 by DIV and REM by 0");
        for (int a : new int[] {MIN, -1, 0, 1, MAX}) {
            for (int b = -1; b <= 1; b++) {
                StackRun x = Op.done(Op.PUSH, a, Op.PUSH, b, Op.DIV, 0, Op.RETURN, 0);
                Op.ended(a + " DIV " + b, x, b == 0 ? 1 : 0, b == 0 ? 1 : a * b, b == 0 ? 3 : 4);
                x.change(0, 2, Op.REM, 0);
                Op.ended(a + " REM " + b, Op.finish(x), b == 0 ? 1 : 0, b == 0 ? 1 : 0, b == 0 ? 3 : 4);
            }
        }
    }

    private static final int[] SIZES = {0, 1, 2, 63, 64};
    private static final int[] PLACES = {MIN, -64, -1, 0, 1, 2, 62, 63, 64, 65, 127, 1023, 1024, MAX};

    private static void getWhereTheRowHasNothing() {
        Check.sentence("2 by GET where the ROW has nothing");
        for (int n : SIZES) {
            for (int i : PLACES) {
                // There is a row on either side, so that a place beside the row is one of another.
                StackRun x = Op.done(Op.PUSH, 64, Op.NEW, 0, Op.PUSH, n, Op.NEW, 0, Op.PUSH, 64, Op.NEW, 0, Op.SWAP, 0,
                        Op.PUSH, i, Op.GET, 0, Op.RETURN, 0);
                boolean there = i >= 0 && i < n;
                Op.ended("GET at " + i + " of " + n, x, there ? 0 : 1, there ? 0 : 2, there ? 10 : 9);
            }
        }
    }

    private static void putWhereTheRowHasNothing() {
        Check.sentence("2 by PUT where the ROW has nothing");
        for (int n : SIZES) {
            for (int i : PLACES) {
                StackRun x = Op.done(Op.PUSH, 64, Op.NEW, 0, Op.PUSH, n, Op.NEW, 0, Op.PUSH, 64, Op.NEW, 0, Op.SWAP, 0,
                        Op.PUSH, i, Op.PUSH, 9, Op.PUT, 0, Op.RETURN, 0);
                boolean there = i >= 0 && i < n;
                Op.ended("PUT at " + i + " of " + n, x, there ? 0 : 1, there ? 64 : 2, there ? 11 : 10);
                Check.same("it is put", x.row(1, i), there ? 9 : 0);
                Check.same("nothing behind it", x.row(2, 0) | x.row(2, 1) | x.row(2, 62) | x.row(2, 63), 0);
                Check.same("nothing before it", x.row(0, 0) | x.row(0, 1) | x.row(0, 62) | x.row(0, 63), 0);
            }
        }
    }

    private static void belowZero() {
        Check.sentence("3 by NEW, if n is below 0");
        for (int n : new int[] {MIN, -1024, -64, -2, -1}) {
            Op.ended("NEW of " + n, Op.done(Op.PUSH, n, Op.NEW, 0, Op.RETURN, 0), 1, 3, 2);
        }
        Op.ended("NEW of 0", Op.done(Op.PUSH, 0, Op.NEW, 0, Op.RETURN, 0), 0, 0, 3);
    }

    private static void above64() {
        Check.sentence("3 by NEW, if n is above 64");
        for (int n : new int[] {65, 66, 128, 500, 1024, 1025, MAX}) {
            Op.ended("NEW of " + n, Op.done(Op.PUSH, n, Op.NEW, 0, Op.RETURN, 0), 1, 3, 2);
        }
        Op.ended("NEW of 64", Op.done(Op.PUSH, 64, Op.NEW, 0, Op.RETURN, 0), 0, 64, 3);
    }

    /** NEW of first, and then again and again NEW of n, until it throws. */
    private static StackRun rows(int first, int n) {
        return Op.finish(Op.program(Op.PUSH, first, Op.NEW, 0, Op.POP, 0, Op.PUSH, n, Op.NEW, 0, Op.POP, 0,
                Op.JUMP, 3));
    }

    private static void fiveHundredRows() {
        Check.sentence("3 by NEW, if the RUN has 500 ROWS");
        for (int n = 0; n <= 2; n++) {
            StackRun x = rows(n, n);
            Op.ended("the 501st row of " + n, x, 1, 3, 3 + 4 * 499 + 2);
            Check.same("rows", x.look(6), 500);
            Check.same("ints", x.look(7), 500 * n);
        }
    }

    private static void moreThan1024Ints() {
        Check.sentence("3 by NEW, if all of them had more than 1024 INTS together");
        for (int n = 3; n <= 64; n++) {
            for (int first = 0; first <= 64; first += 32) {
                StackRun x = rows(first, n);
                int most = (1024 - first) / n;
                Op.ended("after " + first + " again and again " + n, x, 1, 3, 3 + 4 * most + 2);
                Check.same("rows", x.look(6), 1 + most);
                Check.same("ints", x.look(7), first + most * n);
            }
        }
    }

    private static void exactly1024Ints() {
        Check.sentence("more than 1024 INTS together");
        // 15 rows of 64 and one of 63 leave a place for one INT; a row of none has place always.
        for (int last = 0; last <= 3; last++) {
            StackRun x = Op.program(Op.PUSH, 63, Op.NEW, 0, Op.STORE, 1, Op.PUSH, 64, Op.NEW, 0, Op.STORE, 0,
                    Op.JUMP, 3, Op.POP, 0, Op.PUSH, last, Op.NEW, 0, Op.RETURN, 0);
            x.handler(0, 0, 7, 7);
            Op.finish(x);
            int steps = 3 + 4 * 15 + 2 + 3 + (last <= 1 ? 1 : 0);
            Op.ended("then NEW of " + last, x, last <= 1 ? 0 : 1, last <= 1 ? last : 3, steps);
            Check.same("ints", x.look(7), 1023 + (last == 1 ? 1 : 0));
            Check.same("rows", x.look(6), last <= 1 ? 17 : 16);
        }
        StackRun x = Op.program(Op.PUSH, 64, Op.NEW, 0, Op.STORE, 0, Op.JUMP, 0, Op.NEW, 0, Op.PUSH, 0, Op.NEW, 0,
                Op.RETURN, 0);
        x.handler(0, 0, 4, 5);
        Op.ended("a row of none beside 1024", Op.finish(x), 0, 0, 4 * 16 + 2 + 3);
        Check.same("ints", x.look(7), 1024);
        Check.same("rows", x.look(6), 17);
    }

    private static void rowThatIsRefused() {
        Check.sentence("3 by NEW");
        StackRun x = Op.program(Op.PUSH, 65, Op.NEW, 0, Op.PUSH, -1, Op.NEW, 0, Op.PUSH, 5, Op.NEW, 0);
        x.handler(0, 0, 2, 2);
        x.handler(0, 2, 4, 4);
        Op.begun(x, 6);
        Check.same("the next one is the first", x.kind(0, false, 1), 1);
        Check.same("rows", x.look(6), 1);
        Check.same("ints", x.look(7), 5);
    }

    private static void twentyFunctions() {
        Check.sentence("4 by CALL, if 20 FUNCTIONS are being done");
        StackRun x = new StackRun();
        Op.function(x, 0, 0, 0, Op.CALL, 1);
        Op.function(x, 0, 0, 0, Op.CALL, 1);
        Op.begun(x, 19);
        Check.same("twenty are being done", x.look(4), 20);
        Check.same("the lowest of them", x.frame(19, 0), 0);
        Check.same("its call", x.frame(19, 1), 0);
        Check.same("the next of them", x.frame(18, 0), 1);
        Check.same("one more step", x.go(9), 1);
        Op.ended("one more call", x, 1, 4, 20);
        Check.same("the most that were", x.look(5), 20);
    }

    private static void twentyAgainAfterReturn() {
        Check.sentence("if 20 FUNCTIONS are being done");
        // 19 deep the call of FUNCTION 2 is right, again and again; what has returned counts no more.
        StackRun x = new StackRun();
        Op.function(x, 1, 1, 0, Op.LOAD, 0, Op.PUSH, 1, Op.ADD, 0, Op.DUP, 0, Op.PUSH, 19, Op.SAME, 0, Op.IF, 8,
                Op.CALL, 0, Op.CALL, 1, Op.CALL, 1, Op.CALL, 1, Op.CALL, 2);
        Op.function(x, 0, 0, 0, Op.RETURN, 0);
        Op.function(x, 0, 0, 0, Op.CALL, 1);
        Op.ended("three times the 20th, then a 21st", Op.finish(x), 1, 4, 18 * 8 + 7 + 6 + 2);
        Check.same("the most that were", x.look(5), 20);
    }

    private static void anyByThrow() {
        Check.sentence("any by THROW");
        for (int code : new int[] {MIN, -2, -1, 0, 1, 2, 3, 4, 5, 28, 29, 100, MAX}) {
            StackRun x = Op.program(Op.PUSH, code, Op.THROW, 0, Op.RETURN, 0);
            Op.ended("code " + code, Op.finish(x), 1, code, 2);
            x.handler(0, 1, 2, 2);
            x.only(0, code);
            Op.ended("code " + code + " is taken", Op.finish(x), 0, code, 3);
        }
    }

    private static void firstHandler() {
        Check.sentence("the first HANDLER");
        // Bit h of which tells whether handler h is one for this code at this place.
        for (int which = 0; which < 16; which++) {
            StackRun x = Op.program(Op.PUSH, 5, Op.THROW, 0);
            for (int h = 0; h < 4; h++) {
                x.handler(0, 0, 2, 40 + h);
                if ((which >> h & 1) == 0) {
                    x.only(0, 6);
                }
            }
            Op.begun(x, 2);
            int first = Integer.numberOfTrailingZeros(which);
            Check.same("of " + which, x.frame(0, 1), which == 0 ? NONE : 40 + first);
            Check.same("of " + which + ": ended", x.look(0), which == 0 ? 1 : NONE);
        }
    }

    /** INSTRUCTION i throws: FUNCTION 0 has JUMPS to it, PUSH before it. */
    private static StackRun throwAt(int i) {
        StackRun x = new StackRun();
        x.function(0, 0, 1);
        for (int j = 0; j < i - 1; j++) {
            x.add(0, Op.JUMP, i - 1);
        }
        x.add(0, Op.PUSH, 8);
        x.add(0, Op.THROW, 0);
        return x;
    }

    private static void fromNotAbove() {
        Check.sentence("with FROM not above the INSTRUCTION");
        for (int i : new int[] {1, 2, 50, 98, 99}) {
            for (int from : new int[] {0, i - 1, i, i + 1, 100}) {
                StackRun x = throwAt(i);
                x.handler(0, from, 100, 60);
                x.begin();
                x.go(i == 1 ? 2 : 3);
                Check.same("from " + from + " at " + i, x.frame(0, 1), from <= i ? 60 : NONE);
            }
        }
    }

    private static void toAbove() {
        Check.sentence("and TO above the INSTRUCTION");
        for (int i : new int[] {1, 2, 50, 98, 99}) {
            for (int to : new int[] {0, i - 1, i, i + 1, 100}) {
                StackRun x = throwAt(i);
                x.handler(0, 0, to, 60);
                x.begin();
                x.go(i == 1 ? 2 : 3);
                Check.same("to " + to + " at " + i, x.frame(0, 1), to > i ? 60 : NONE);
            }
        }
    }

    /** INSTRUCTION 0 throws too: the CALL of a FUNCTION that does. */
    private static void lastInstruction() {
        Check.sentence("FROM, TO, TARGET, 0 .. 100 each");
        StackRun x = throwAt(99);
        x.handler(0, 100, 100, 0);
        Op.ended("100 to 100 covers nothing", Op.finish(x), 1, 8, 3);
        x.handler(0, 99, 100, 100);
        Op.ended("99 to 100 covers the last; 100 is not there", Op.finish(x), 2, 0, 4);
        x = Op.program(Op.CALL, 1);
        Op.function(x, 0, 0, 0, Op.PUSH, 8, Op.THROW, 0);
        x.handler(0, 0, 0, 30);
        Op.ended("0 to 0 covers nothing", Op.finish(x), 1, 8, 3);
        x.handler(0, 1, 0, 31);
        Op.ended("1 to 0 covers nothing", Op.finish(x), 1, 8, 3);
        x.handler(0, 0, 1, 32);
        Op.begun(x, 3);
        Check.same("0 to 1 covers the first", x.frame(0, 1), 32);
    }

    private static void anyCodeOrThisOne() {
        Check.sentence("that is for any code or this one");
        int[][] throwing = {
            {Op.PUSH, 1, Op.PUSH, 0, Op.DIV, 0}, {Op.PUSH, 0, Op.NEW, 0, Op.PUSH, 0, Op.GET, 0},
            {Op.PUSH, 1, Op.PUSH, 65, Op.NEW, 0}, {Op.CALL, 0},
        };
        for (int code = 1; code <= 4; code++) {
            for (int only = 0; only <= 5; only++) {
                StackRun x = Op.program(throwing[code - 1]);
                x.handler(0, 0, 100, 70);
                if (only > 0) {
                    x.only(0, only);
                }
                x.begin();
                x.go(code == 4 ? 20 : throwing[code - 1].length / 2);
                boolean taken = only == 0 || only == code;
                Check.same("code " + code + " for " + only, x.frame(0, 1), taken ? 70 : NONE);
                Check.same("code " + code + " for " + only, x.value(0, false, 0), taken ? code : 0);
                Check.same("code " + code + " for " + only, x.look(1), taken ? 0 : code);
            }
        }
    }

    private static void codeAlone() {
        Check.sentence("there is the code alone on the STACK then");
        for (int there = 1; there <= 16; there++) {
            StackRun x = new StackRun();
            x.function(0, 2, 0);
            Op.pushes(x, 0, there, 500);
            x.add(0, Op.THROW, 0);
            x.handler(0, there, there + 1, 90);
            Op.begun(x, there + 1);
            Check.same("of " + there + ": on the stack", x.frame(0, 2), 1);
            Check.same("of " + there + ": the code", x.value(0, false, 0), 499 + there);
            Check.same("of " + there + ": it is an int", x.kind(0, false, 0), 0);
            Check.same("of " + there + ": nothing above it", x.kind(0, false, 1), NONE);
        }
        // The lowest place held a ROW, and a THROW of what stood above it must not leave it one.
        StackRun x = Op.program(Op.PUSH, 3, Op.NEW, 0, Op.DUP, 0, Op.STORE, 1, Op.PUSH, 7, Op.THROW, 0);
        x.handler(0, 0, 100, 90);
        Op.begun(x, 6);
        Check.same("no row", x.kind(0, false, 0), 0);
        Check.same("locals stay", x.kind(0, true, 1), 1);
        Check.same("rows stay", x.look(6), 1);
    }

    private static void goesOnAtTarget() {
        Check.sentence("and it goes on at TARGET");
        for (int target : new int[] {0, 1, 2, 3, 99, 100}) {
            StackRun x = Op.program(Op.PUSH, 5, Op.THROW, 0, Op.RETURN, 0);
            x.handler(0, 1, 2, target);
            Op.begun(x, 2);
            Check.same("at " + target, x.frame(0, 1), target);
            Check.same("it has not ended", x.look(0), NONE);
            x.go(1);
            Check.same("what is at " + target + " is done", x.look(0), target <= 1 ? NONE : target == 2 ? 0 : 2);
        }
        // A HANDLER takes what is thrown at its own TARGET too, for ever.
        StackRun x = Op.program(Op.PUSH, 5, Op.THROW, 0);
        x.handler(0, 0, 2, 1);
        x.begin();
        Check.same("for ever", x.go(5000), 5000);
        Check.same("it is still there", x.frame(0, 1), 1);
    }

    /** FUNCTIONS 1 .. deep call each the next one, the last throws 50. */
    private static StackRun chain(int deep) {
        StackRun x = new StackRun();
        for (int f = 0; f < deep; f++) {
            Op.function(x, 0, 0, 0, Op.PUSH, f, Op.CALL, f + 1);
        }
        Op.function(x, 0, 0, 0, Op.PUSH, 50, Op.THROW, 0);
        return x;
    }

    private static void doneNoMore() {
        Check.sentence("If there is none, the FUNCTION is done no more");
        for (int deep = 0; deep <= 7; deep++) {
            for (int taker = 0; taker <= deep; taker++) {
                StackRun x = chain(deep);
                x.handler(taker, 1, 2, 33);
                Op.begun(x, 2 * deep + 2);
                Check.same(deep + " deep: being done", x.look(4), taker + 1);
                Check.same(deep + " deep: the most", x.look(5), deep + 1);
                Check.same(deep + " deep: which", x.frame(0, 0), taker);
                Check.same(deep + " deep: next", x.frame(0, 1), 33);
                Check.same(deep + " deep: the code alone", x.frame(0, 2), 1);
                Check.same(deep + " deep: the code", x.value(0, false, 0), 50);
                Check.same(deep + " deep: one step", x.look(2), 2 * deep + 2);
                Check.same(deep + " deep: below it", x.frame(1, 2), taker > 0 ? 1 : NONE);
            }
        }
    }

    private static void thrownByTheCall() {
        Check.sentence("and the code is THROWN by the CALL that began it");
        // The place that counts is that of the CALL, 1, whatever the place where the called one threw.
        for (int from = 0; from <= 3; from++) {
            for (int to = 0; to <= 4; to++) {
                for (int only = 49; only <= 51; only++) {
                    StackRun x = Op.program(Op.JUMP, 1, Op.CALL, 1, Op.POP, 0);
                    Op.function(x, 0, 0, 0, Op.PUSH, 50, Op.JUMP, 2, Op.JUMP, 3, Op.THROW, 0);
                    x.handler(0, from, to, 20);
                    x.only(0, only);
                    Op.begun(x, 6);
                    boolean taken = from <= 1 && to > 1 && only == 50;
                    Check.same(from + " to " + to + " for " + only, x.frame(0, 1), taken ? 20 : NONE);
                    Check.same(from + " to " + to + " for " + only, x.look(0), taken ? NONE : 1);
                }
            }
        }
        // Of two that could, the one nearer to the throw takes it, though its HANDLER came later.
        StackRun x = chain(2);
        x.handler(0, 0, 100, 30);
        x.handler(1, 0, 100, 31);
        Op.begun(x, 6);
        Check.same("the nearer one", x.frame(0, 0), 1);
        Check.same("at its target", x.frame(0, 1), 31);
    }

    private static void noneForFunctionZero() {
        Check.sentence("by none for FUNCTION 0: the RUN ENDS 1, with the code as its VALUE");
        for (int deep = 0; deep <= 7; deep++) {
            StackRun x = chain(deep);
            Op.ended(deep + " deep", Op.finish(x), 1, 50, 2 * deep + 2);
            Check.same("nothing is done then", x.frame(0, 0), NONE);
            Check.same("nor later", x.go(5), 0);
        }
        for (int code : new int[] {MIN, -1, 0, 1, 2, MAX}) {
            Op.ended("code " + code, Op.done(Op.PUSH, code, Op.THROW, 0), 1, code, 2);
        }
    }
}
