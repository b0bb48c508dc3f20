import java.util.ArrayList;
import java.util.List;
import java.util.function.ToIntFunction;

/**
 * "What answers false or NONE changes nothing": of two objects that were made alike one has a call
 * refused, and then both must answer alike, at once, as the RUN goes on, and in a new RUN.
 */
public final class RefusedTest {
    private static final int NONE = StackRun.NONE;
    private static final int MIN = Integer.MIN_VALUE;
    private static final int MAX = Integer.MAX_VALUE;
    private static final int MOST_CALLS = 512;

    /** Where the object is when the call is refused. */
    private enum State { NO_RUN, BEGUN, MIDWAY, IN_A_CALL, ENDED }

    /** How the program goes on in the end, so that each thing a refused call might leave would show. */
    private enum Ending { BEHIND_THE_LAST, BEHIND_THE_LAST_OF_THE_CALLED, CODE_NOT_TAKEN }

    private record Call(String name, ToIntFunction<StackRun> call) { }

    private static final List<Call> CALLS = new ArrayList<>();

    public static void main(String[] args) {
        Check.sentence("What answers false or NONE changes nothing");
        functions();
        adds();
        changes();
        handlers();
        questions();
        for (State state : State.values()) {
            for (Ending ending : Ending.values()) {
                for (Call c : CALLS) {
                    refused(c, state, ending);
                }
            }
        }
        withoutRun();
        Check.finish();
    }

    private static void call(String name, ToIntFunction<StackRun> call) {
        CALLS.add(new Call(name, call));
    }

    private static int none(boolean answer) {
        return answer ? 1 : NONE;
    }

    private static void functions() {
        call("a ninth function", x -> x.function(0, 0, 0));
        call("function with wrong params", x -> x.function(5, 5, 0));
        call("function with wrong locals", x -> x.function(1, 0, 0));
        call("function with wrong result", x -> x.function(0, 0, 2));
    }

    private static void adds() {
        for (int f : new int[] {MIN, -1, 8, MAX}) {
            call("add to function " + f, x -> x.add(f, Op.PUSH, 1));
        }
        call("a 101st instruction", x -> x.add(0, Op.RETURN, 0));
        for (int operation : new int[] {MIN, -1, 29, MAX}) {
            call("add of operation " + operation, x -> x.add(1, operation, 0));
        }
        call("a 65th answer", x -> x.answer(99));
    }

    private static void changes() {
        for (int f : new int[] {MIN, -1, 8, MAX}) {
            call("change in function " + f, x -> none(x.change(f, 0, Op.POP, 1)));
        }
        for (int i : new int[] {MIN, -1, 100, MAX}) {
            call("change of instruction " + i, x -> none(x.change(0, i, Op.POP, 1)));
        }
        call("change behind the last", x -> none(x.change(1, 3, Op.RETURN, 1)));
        for (int operation : new int[] {MIN, -1, 29, MAX}) {
            call("change to operation " + operation, x -> none(x.change(0, 0, operation, 1)));
        }
    }

    private static void handlers() {
        for (int f : new int[] {MIN, -1, 8, MAX}) {
            call("handler of function " + f, x -> none(x.handler(f, 0, 100, 1)));
            call("only of function " + f, x -> none(x.only(f, 55)));
        }
        call("a fifth handler", x -> none(x.handler(0, 0, 100, 1)));
        call("only without a handler", x -> none(x.only(2, 55)));
        for (int place : new int[] {MIN, -1, 101, MAX}) {
            call("from " + place, x -> none(x.handler(1, place, 100, 1)));
            call("to " + place, x -> none(x.handler(1, 0, place, 1)));
            call("target " + place, x -> none(x.handler(1, 0, 100, place)));
        }
    }

    private static void questions() {
        for (int n : new int[] {MIN, -1, 0, 5001, MAX}) {
            call("go " + n, x -> x.go(n));
        }
        for (int k : new int[] {MIN, -1, 2, 20, MAX}) {
            call("frame " + k, x -> x.frame(k, 0));
            call("kind of " + k, x -> x.kind(k, false, 0));
        }
        for (int i : new int[] {MIN, -1, 3, 10, MAX}) {
            call("frame 0 " + i, x -> x.frame(0, i));
            call("kind " + i, x -> x.kind(0, true, i));
            call("kind on the stack " + i, x -> x.kind(0, false, i == 3 ? 16 : i));
        }
        call("look 10", x -> x.look(10));
        call("look -1", x -> x.look(-1));
    }

    /** As full as an object can be: 8 FUNCTIONS, 100 INSTRUCTIONS, 4 HANDLERS, 64 ANSWERS. */
    private static StackRun made(Ending ending) {
        StackRun x = new StackRun();
        boolean called = ending == Ending.BEHIND_THE_LAST_OF_THE_CALLED;
        Op.function(x, 0, 2, 0, Op.PUSH, 3, Op.NEW, 0, Op.STORE, 1, Op.HOST, 4, Op.PUSH, 8, Op.CALL, 1,
                Op.PUSH, 55, ending == Ending.CODE_NOT_TAKEN ? Op.THROW : Op.JUMP, 99);
        for (int i = 8; i < 100; i++) {
            x.add(0, Op.JUMP, 100);
        }
        Op.function(x, 1, 3, 0, Op.LOAD, 0, Op.STORE, 2, called ? Op.LOAD : Op.RETURN, 0);
        for (int f = 2; f < 8; f++) {
            x.function(0, 0, 0);
        }
        for (int h = 0; h < 4; h++) {
            x.handler(0, 0, 100, 8);
            x.only(0, 10 + h);
        }
        x.handler(1, 0, 100, 2);
        x.only(1, 20);
        for (int i = 0; i < 64; i++) {
            x.answer(1000 + i);
        }
        return x;
    }

    private static final int CALLS_TO_MAKE = 8 + 100 + 3 + 2 * 4 + 2 + 64;

    private static StackRun inState(State state, Ending ending) {
        StackRun x = made(ending);
        switch (state) {
            case NO_RUN -> { }
            case BEGUN -> Op.begun(x, 0);
            case MIDWAY -> Op.begun(x, 5);
            case IN_A_CALL -> Op.begun(x, 7);
            case ENDED -> Op.finish(x);
        }
        return x;
    }

    private static void refused(Call c, State state, Ending ending) {
        StackRun x = inState(state, ending);
        String name = c.name + ", " + state + ", " + ending;
        Check.same(name, c.call.applyAsInt(x), NONE);
        Check.yes(name + ": all answers as without it", answers(x).equals(answers(inState(state, ending))));
    }

    private static List<Integer> answers(StackRun x) {
        List<Integer> all = new ArrayList<>();
        ask(x, all);
        all.add(x.go(2));
        ask(x, all);
        all.add(x.go(5000));
        ask(x, all);
        x.begin();
        all.add(x.go(5000));
        ask(x, all);
        Check.yes("within the calls that an object has", CALLS_TO_MAKE + 4 + all.size() < MOST_CALLS);
        return all;
    }

    private static void ask(StackRun x, List<Integer> all) {
        for (int which = 0; which < 10; which++) {
            all.add(x.look(which));
        }
        for (int k = 0; k < 3; k++) {
            for (int what = 0; what < 3; what++) {
                all.add(x.frame(k, what));
            }
            for (int i = 0; i < 3; i++) {
                all.add(x.value(k, false, i));
                all.add(x.value(k, true, i));
                all.add(x.kind(k, false, i));
                all.add(x.kind(k, true, i));
            }
        }
        all.add(x.row(0, 0));
        all.add(x.trace(0, 0));
        all.add(x.trace(0, 4));
        all.add(x.trace(1, 0));
    }

    private static void withoutRun() {
        StackRun x = made(Ending.CODE_NOT_TAKEN);
        for (int n : new int[] {1, 5000}) {
            Check.same("go " + n + " without a run", x.go(n), NONE);
            Check.same("there is none then either", x.look(4), 0);
        }
        Check.yes("all answers as without it", answers(x).equals(answers(made(Ending.CODE_NOT_TAKEN))));
    }
}
