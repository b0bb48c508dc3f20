/** The edges of the OPERATIONS, one method for each piece of the document that names one. */
public final class OperationEdgeTest {
    private static final int NONE = StackRun.NONE;
    private static final int MIN = Integer.MIN_VALUE;
    private static final int MAX = Integer.MAX_VALUE;
    private static final int[] INTS = {
        MIN, MIN + 1, -65536, -33, -32, -31, -2, -1, 0, 1, 2, 3, 31, 32, 33, 63, 64, 46341, 65536, MAX - 1, MAX,
    };

    public static void main(String[] args) {
        int32();
        moduloTwoToThe32();
        roundedTowardsZero();
        divisionThatWraps();
        whatIsLeft();
        lowestFiveBits();
        withTheSign();
        oneOrZero();
        bThenA();
        jumpTo();
        ifNotZero();
        popOfTheLast();
        dupOnce();
        swapOfTwo();
        loadAndStore();
        newOfInts();
        newIsAllZero();
        getFromZeroOn();
        putAt();
        sizeOf();
        paramsLastFirst();
        hostModulo4();
        hostLastFirst();
        returnAndBelow();
        returnOfRow();
        throwOfAnInt();
        numberOfWhichNothingIsSaid();
        Check.finish();
    }

    private static int of(int operation, int a, int b) {
        StackRun x = Op.done(Op.PUSH, a, Op.PUSH, b, operation, 0, Op.RETURN, 0);
        Check.same(a + " and " + b + ": ended", x.look(0), 0);
        Check.same(a + " and " + b + ": steps", x.look(2), 4);
        return x.look(1);
    }

    private static void int32() {
        Check.sentence("an INT (32 bits, with its sign)");
        for (int v : INTS) {
            StackRun x = Op.begun(Op.program(Op.PUSH, v), 1);
            Check.same("PUSH " + v, x.value(0, false, 0), v);
            Check.same("PUSH " + v, x.kind(0, false, 0), 0);
        }
    }

    private static void moduloTwoToThe32() {
        Check.sentence("6 ADD, 7 SUB, 8 MUL (modulo 2^32)");
        for (int a : INTS) {
            for (int b : INTS) {
                Check.same(a + " + " + b, of(Op.ADD, a, b), (int) ((long) a + b));
                Check.same(a + " - " + b, of(Op.SUB, a, b), (int) ((long) a - b));
                Check.same(a + " * " + b, of(Op.MUL, a, b), (int) ((long) a * b));
            }
        }
    }

    private static void roundedTowardsZero() {
        Check.sentence("9 DIV, rounded towards 0");
        for (int a : INTS) {
            for (int b : INTS) {
                if (b != 0) {
                    long size = Math.abs((long) a) / Math.abs((long) b);
                    Check.same(a + " by " + b, of(Op.DIV, a, b), (int) ((a < 0) == (b < 0) ? size : -size));
                }
            }
        }
    }

    private static void divisionThatWraps() {
        Check.sentence("-2147483648 by -1 is -2147483648");
        Check.same("DIV", of(Op.DIV, MIN, -1), MIN);
        Check.same("its neighbour", of(Op.DIV, MIN + 1, -1), MAX);
        Check.same("by 1", of(Op.DIV, MIN, 1), MIN);
    }

    private static void whatIsLeft() {
        Check.sentence("10 REM, what is left then");
        for (int a : INTS) {
            for (int b : INTS) {
                if (b != 0) {
                    long left = Math.abs((long) a) % Math.abs((long) b);
                    Check.same(a + " by " + b, of(Op.REM, a, b), a < 0 ? -left : left);
                }
            }
        }
    }

    private static void lowestFiveBits() {
        Check.sentence("14 SHL, 15 SHR (by the lowest five bits)");
        for (int a : INTS) {
            for (int b = -65; b <= 65; b++) {
                int by = Math.floorMod(b, 32);
                Check.same(a + " SHL " + b, of(Op.SHL, a, b), (int) (a * (1L << by)));
                Check.same(a + " SHR " + b, of(Op.SHR, a, b), (int) Math.floorDiv((long) a, 1L << by));
            }
            Check.same(a + " SHL MIN", of(Op.SHL, a, MIN), a);
            Check.same(a + " SHR MIN", of(Op.SHR, a, MIN), a);
            Check.same(a + " SHR MAX", of(Op.SHR, a, MAX), a < 0 ? -1 : 0);
        }
    }

    private static void withTheSign() {
        Check.sentence("15 SHR (with the sign)");
        Check.same("the lowest by 31", of(Op.SHR, MIN, 31), -1);
        Check.same("the lowest by 1", of(Op.SHR, MIN, 1), -1073741824);
        Check.same("-1 by 31", of(Op.SHR, -1, 31), -1);
        Check.same("the highest by 30", of(Op.SHR, MAX, 30), 1);
        Check.same("the highest by 31", of(Op.SHR, MAX, 31), 0);
    }

    private static void oneOrZero() {
        Check.sentence("16 LESS (1 or 0), 17 SAME");
        for (int a : INTS) {
            for (int b : INTS) {
                Check.same(a + " LESS " + b, of(Op.LESS, a, b), (long) a - b < 0 ? 1 : 0);
                Check.same(a + " SAME " + b, of(Op.SAME, a, b), (long) a - b == 0 ? 1 : 0);
            }
        }
    }

    private static void bThenA() {
        Check.sentence("take b, then a, two INTS, and put an INT");
        for (int operation = Op.ADD; operation <= Op.SAME; operation++) {
            StackRun x = Op.begun(Op.program(Op.PUSH, 77, Op.PUSH, 12, Op.PUSH, 10, operation, 0), 4);
            Check.same("operation " + operation + " leaves what is below", x.value(0, false, 0), 77);
            Check.same("operation " + operation + " puts one", x.frame(0, 2), 2);
            Check.same("operation " + operation + " puts an int", x.kind(0, false, 1), 0);
            int[] due = {22, 2, 120, 1, 2, 8, 14, 6, 12288, 0, 0, 0};
            Check.same("operation " + operation, x.value(0, false, 1), due[operation - Op.ADD]);
        }
    }

    private static void jumpTo() {
        Check.sentence("18 JUMP, to INSTRUCTION v");
        for (int v : new int[] {MIN, -1, 0, 1, 2, 99, 100, 101, MAX}) {
            StackRun x = Op.begun(Op.program(Op.JUMP, v, Op.JUMP, 1), 1);
            Check.same("JUMP " + v + ": next", x.frame(0, 1), v);
            Check.same("JUMP " + v + " is right", x.look(0), NONE);
            x.go(1);
            boolean there = v == 0 || v == 1;
            Check.same("what is at " + v, x.look(0), there ? NONE : 2);
            Check.same("it is a step", x.look(2), 2);
        }
    }

    private static void ifNotZero() {
        Check.sentence("19 IF: goes to v if it is not 0; 20 IFNOT: if it is 0");
        for (int taken : INTS) {
            for (int operation = Op.IF; operation <= Op.IFNOT; operation++) {
                StackRun x = Op.begun(Op.program(Op.PUSH, 5, Op.PUSH, taken, operation, 40), 3);
                boolean goes = (taken != 0) == (operation == Op.IF);
                Check.same(operation + " of " + taken + ": next", x.frame(0, 1), goes ? 40 : 3);
                Check.same(operation + " of " + taken + " takes it", x.frame(0, 2), 1);
            }
        }
    }

    private static void popOfTheLast() {
        Check.sentence("1 POP takes one");
        StackRun x = Op.begun(Op.program(Op.PUSH, 4, Op.PUSH, 5, Op.POP, 0, Op.POP, 0), 3);
        Check.same("one is left", x.frame(0, 2), 1);
        Check.same("the lower one", x.value(0, false, 0), 4);
        x.go(1);
        Check.same("none is left", x.frame(0, 2), 0);
        Check.same("nothing is there", x.kind(0, false, 0), NONE);
    }

    private static void dupOnce() {
        Check.sentence("2 DUP puts the top once more");
        StackRun x = Op.program(Op.PUSH, 3, Op.PUSH, 4, Op.NEW, 0, Op.DUP, 0);
        Op.begun(x, 4);
        int[] values = {3, 4, 4};
        int[] kinds = {0, 1, 1};
        for (int i = 0; i < 3; i++) {
            Check.same("value " + i, x.value(0, false, i), values[i]);
            Check.same("the same row, not another: " + i, x.kind(0, false, i), kinds[i]);
        }
        Check.same("no row more", x.look(6), 1);
        Check.same("three", x.frame(0, 2), 3);
        Op.ended("what is put into the one is in the other", Op.done(Op.PUSH, 4, Op.NEW, 0, Op.DUP, 0, Op.PUSH, 3,
                Op.PUSH, 8, Op.PUT, 0, Op.PUSH, 3, Op.GET, 0, Op.RETURN, 0), 0, 8, 9);
    }

    private static void swapOfTwo() {
        Check.sentence("3 SWAP changes the upper two over");
        StackRun x = Op.begun(Op.program(Op.PUSH, 1, Op.PUSH, 2, Op.NEW, 0, Op.PUSH, 3, Op.SWAP, 0), 5);
        int[] values = {1, 3, 2};
        int[] kinds = {0, 0, 1};
        for (int i = 0; i < 3; i++) {
            Check.same("value " + i, x.value(0, false, i), values[i]);
            Check.same("kind " + i, x.kind(0, false, i), kinds[i]);
        }
        Check.same("three", x.frame(0, 2), 3);
    }

    private static void loadAndStore() {
        Check.sentence("4 LOAD: puts LOCAL v. 5 STORE: takes it into LOCAL v");
        for (int v = 0; v < 8; v++) {
            StackRun x = new StackRun();
            Op.function(x, 0, 8, 0, Op.PUSH, 9, Op.STORE, v, Op.LOAD, v, Op.PUSH, 6, Op.NEW, 0, Op.STORE, v,
                    Op.LOAD, v);
            Op.begun(x, 2);
            Check.same("STORE takes it", x.frame(0, 2), 0);
            for (int i = 0; i < 8; i++) {
                Check.same("local " + i + " after STORE " + v, x.value(0, true, i), i == v ? 9 : 0);
            }
            x.go(5);
            Check.same("LOAD " + v, x.value(0, false, 0), 9);
            Check.same("LOAD " + v + " of a row", x.kind(0, false, 1), 1);
            Check.same("LOAD leaves it", x.kind(0, true, v), 1);
        }
    }

    private static void newOfInts() {
        Check.sentence("21 NEW: takes an INT n, puts a new ROW of n INTS");
        for (int n = 0; n <= 64; n++) {
            StackRun x = Op.begun(Op.program(Op.PUSH, 7, Op.PUSH, n, Op.NEW, 0), 3);
            Check.same("NEW of " + n + " takes one, puts one", x.frame(0, 2), 2);
            Check.same("NEW of " + n + " is a row", x.kind(0, false, 1), 1);
            Check.same("NEW of " + n + " has", x.value(0, false, 1), n);
            Check.same("rows", x.look(6), 1);
            Check.same("ints", x.look(7), n);
        }
    }

    private static void newIsAllZero() {
        Check.sentence("a new ROW of n INTS, all 0");
        StackRun x = Op.program(Op.PUSH, 0, Op.STORE, 1, Op.PUSH, 64, Op.NEW, 0, Op.STORE, 0, Op.LOAD, 0, Op.LOAD, 1,
                Op.PUSH, -1, Op.PUT, 0, Op.LOAD, 1, Op.PUSH, 1, Op.ADD, 0, Op.STORE, 1, Op.JUMP, 5);
        Op.ended("it is filled, then a place too much", Op.finish(x), 1, 2, 5 + 64 * 9 + 4);
        for (int i = 0; i < 64; i++) {
            Check.same("filled " + i, x.row(0, i), -1);
        }
        Op.begun(x, 4);
        for (int i = 0; i < 64; i++) {
            Check.same("in a new run " + i, x.row(0, i), 0);
        }
    }

    private static void getFromZeroOn() {
        Check.sentence("22 GET: takes an INT i, then a ROW, puts what is there at i, from 0 on");
        for (int i = -1; i <= 3; i++) {
            StackRun x = Op.program(Op.PUSH, 3, Op.NEW, 0, Op.STORE, 0, Op.LOAD, 0, Op.PUSH, 0, Op.PUSH, 70, Op.PUT, 0,
                    Op.LOAD, 0, Op.PUSH, 1, Op.PUSH, 71, Op.PUT, 0, Op.LOAD, 0, Op.PUSH, 2, Op.PUSH, 72, Op.PUT, 0,
                    Op.PUSH, 5, Op.LOAD, 0, Op.PUSH, i, Op.GET, 0);
            Op.begun(x, 19);
            boolean there = i >= 0 && i < 3;
            Check.same("GET at " + i, x.value(0, false, 1), there ? 70 + i : 0);
            Check.same("GET at " + i + " takes two, puts one", x.frame(0, 2), there ? 2 : NONE);
            Check.same("GET at " + i + " puts an int", x.kind(0, false, 1), there ? 0 : NONE);
            Check.same("GET at " + i + " leaves the row", x.row(0, 1), 71);
        }
    }

    private static void putAt() {
        Check.sentence("23 PUT: takes an INT w, an INT i, then a ROW: that has w at i");
        for (int i = 0; i < 3; i++) {
            StackRun x = Op.program(Op.PUSH, 3, Op.NEW, 0, Op.PUSH, 3, Op.NEW, 0, Op.PUSH, 3, Op.NEW, 0, Op.SWAP, 0,
                    Op.PUSH, i, Op.PUSH, MIN, Op.PUT, 0);
            Op.begun(x, 10);
            for (int r = 0; r < 3; r++) {
                for (int j = 0; j < 3; j++) {
                    Check.same("row " + r + " at " + j, x.row(r, j), r == 1 && j == i ? MIN : 0);
                }
            }
            Check.same("three are taken, nothing is put", x.frame(0, 2), 2);
        }
    }

    private static void sizeOf() {
        Check.sentence("24 SIZE: takes a ROW, puts how many INTS it has");
        for (int n : new int[] {0, 1, 63, 64}) {
            StackRun x = Op.begun(Op.program(Op.PUSH, n, Op.NEW, 0, Op.SIZE, 0), 3);
            Check.same("SIZE of " + n, x.value(0, false, 0), n);
            Check.same("SIZE of " + n + " is an int", x.kind(0, false, 0), 0);
            Check.same("SIZE of " + n + " takes the row", x.frame(0, 2), 1);
        }
    }

    private static void paramsLastFirst() {
        Check.sentence("25 CALL: takes PARAMS (the last one first), which are its first LOCALS, and begins it");
        StackRun x = Op.program(Op.PUSH, 1, Op.PUSH, 2, Op.PUSH, 3, Op.NEW, 0, Op.PUSH, 4, Op.PUSH, 5, Op.CALL, 1);
        x.function(4, 8, 0);
        Op.begun(x, 7);
        int[] values = {2, 3, 4, 5, 0, 0, 0, 0};
        for (int i = 0; i < 8; i++) {
            Check.same("local " + i, x.value(0, true, i), values[i]);
            Check.same("kind of local " + i, x.kind(0, true, i), i == 1 ? 1 : 0);
        }
        Check.same("it is begun", x.frame(0, 0), 1);
        Check.same("at 0", x.frame(0, 1), 0);
        Check.same("one is left of the other", x.frame(1, 2), 1);
        Check.same("the lowest", x.value(1, false, 0), 1);
    }

    private static void hostModulo4() {
        Check.sentence("26 HOST: takes v modulo 4 INTS, v 0 .. 15; puts its ANSWER");
        for (int v = -5; v <= 20; v++) {
            StackRun x = Op.program(Op.PUSH, 1, Op.PUSH, 2, Op.PUSH, 3, Op.PUSH, 4, Op.HOST, v);
            x.answer(90);
            Op.begun(x, 5);
            boolean right = v >= 0 && v <= 15;
            Check.same("HOST " + v, x.look(0), right ? NONE : 2);
            Check.same("HOST " + v + ": on the stack", x.frame(0, 2), right ? 5 - v % 4 : NONE);
            Check.same("HOST " + v + ": the answer", right ? x.value(0, false, 4 - v % 4) : 90, 90);
            Check.same("HOST " + v + ": calls outside", x.look(3), right ? 1 : 0);
            Check.same("HOST " + v + ": its number", x.trace(0, 0), right ? v : 0);
        }
    }

    private static void hostLastFirst() {
        Check.sentence("takes v modulo 4 INTS (the last one first)");
        for (int v = 0; v < 16; v++) {
            StackRun x = Op.begun(Op.program(Op.PUSH, 11, Op.PUSH, 12, Op.PUSH, 13, Op.HOST, v), 4);
            int n = v % 4;
            for (int j = 1; j <= 3; j++) {
                Check.same("int " + j + " of HOST " + v, x.trace(0, j), j <= n ? 13 - n + j : 0);
            }
        }
    }

    private static void returnAndBelow() {
        Check.sentence("27 RETURN: takes a VALUE, if RESULT is 1, and puts it where the CALL stands; what is below is gone");
        for (int result = 0; result <= 1; result++) {
            StackRun x = Op.program(Op.PUSH, 7, Op.CALL, 1, Op.CALL, 1);
            Op.function(x, 0, 0, result, Op.PUSH, 20, Op.PUSH, 21, Op.PUSH, 22, Op.RETURN, 0);
            Op.begun(x, 6);
            Check.same("on the stack of the call", x.frame(0, 2), 1 + result);
            Check.same("its own is below", x.value(0, false, 0), 7);
            Check.same("what is put", x.value(0, false, 1), 22 * result);
            Check.same("behind the call", x.frame(0, 1), 2);
            Check.same("one is being done", x.look(4), 1);
            x.go(1);
            Check.same("nothing is left when it is begun anew", x.frame(0, 2), 0);
        }
    }

    private static void returnOfRow() {
        Check.sentence("27 RETURN: takes a VALUE");
        StackRun x = Op.program(Op.CALL, 1, Op.RETURN, 0);
        Op.function(x, 0, 0, 1, Op.PUSH, 1, Op.NEW, 0, Op.PUSH, 8, Op.NEW, 0, Op.RETURN, 0);
        Op.begun(x, 6);
        Check.same("a row is put", x.kind(0, false, 0), 2);
        Check.same("as it is", x.value(0, false, 0), 8);
        x.go(1);
        Check.same("a row ends it", x.look(0), 0);
        Check.same("its size", x.look(1), 8);
    }

    private static void throwOfAnInt() {
        Check.sentence("28 THROW: takes an INT: a code");
        for (int code : INTS) {
            Op.ended("code " + code, Op.done(Op.PUSH, 3, Op.PUSH, code, Op.THROW, 0), 1, code, 3);
        }
    }

    private static void numberOfWhichNothingIsSaid() {
        Check.sentence("a number v (0 where nothing is said of it)");
        for (int v : new int[] {MIN, -1, 1, 100, MAX}) {
            Op.ended("with " + v, Op.done(Op.PUSH, 2, Op.DUP, v, Op.SWAP, v, Op.ADD, v, Op.NEW, v, Op.SIZE, v,
                    Op.RETURN, v), 0, 4, 7);
        }
    }
}
