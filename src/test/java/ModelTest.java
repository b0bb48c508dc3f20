import java.util.Random;

/** Random runs of calls, the same on a StackRun and on a Model: every answer must be the same. */
public final class ModelTest {
    private static final int RUNS = 3000;
    private static final int CALLS = 512;
    private static final int[] EDGES = {
        0, 1, -1, 2, 3, 4, 7, 8, 9, 15, 16, 17, 28, 29, 31, 32, 63, 64, 65, 99, 100, 101, 500, 1024, 5000, 5001,
        Integer.MAX_VALUE, Integer.MIN_VALUE,
    };

    private final Random random;
    private final StackRun x = new StackRun();
    private final Model model = new Model();
    private final String name;
    private int calls = 0;
    // How often a RUN ended so, over all runs of calls: 0, 1, 2, and not at all.
    private static final int[] ENDS = new int[4];
    private static int deepest = 0;
    private static int mostRows = 0;
    private static int mostInts = 0;
    private static int mostOutside = 0;

    private ModelTest(int seed) {
        random = new Random(seed);
        name = "seed " + seed + ": ";
    }

    public static void main(String[] args) {
        for (int seed = 0; seed < RUNS; seed++) {
            new ModelTest(seed).all();
        }
        Check.yes("runs end in every way", ENDS[0] > 100 && ENDS[1] > 100 && ENDS[2] > 100 && ENDS[3] > 100);
        Check.same("calls go as deep as they can", deepest, 20);
        Check.same("as many rows as there can be", mostRows, 500);
        Check.same("as many ints as there can be", mostInts, 1024);
        Check.yes("more calls outside than are kept", mostOutside > 64);
        Check.finish();
    }

    private void all() {
        while (calls < CALLS) {
            int way = random.nextInt(100);
            if (way < 12) {
                program();
            } else if (way < 20) {
                anyBuildCall();
            } else if (way < 45) {
                start();
            } else {
                look();
            }
        }
    }

    private void same(String what, long got, long due) {
        calls++;
        // What an object answers after its last promised call is free.
        if (calls <= CALLS) {
            Check.same(name + "call " + calls + " " + what, got, due);
        }
    }

    private void same(String what, boolean got, boolean due) {
        same(what, got ? 1 : 0, due ? 1 : 0);
    }

    private int below(int n) {
        return random.nextInt(n);
    }

    /** Mostly one of the first n numbers, now and then any. */
    private int near(int n) {
        return below(25) > 0 ? below(n) : EDGES[below(EDGES.length)];
    }

    private int anyInt() {
        int way = below(10);
        return way < 6 ? below(12) - 3 : way < 9 ? EDGES[below(EDGES.length)] : random.nextInt();
    }

    private void program() {
        if (below(3) > 0) {
            x.clear();
            model.clear();
            calls++;
        }
        int functions = 1 + below(3);
        for (int f = 0; f < functions; f++) {
            int params = near(4);
            int locals = params + near(5);
            int result = near(2);
            same("function", x.function(params, locals, result), model.function(params, locals, result));
        }
        for (int f = 0; f < model.look(8); f++) {
            int style = below(5);
            int size = 3 + below(30);
            if (style >= 3) {
                pieces(f);
            }
            for (int i = 0; i < size && style < 3; i++) {
                int operation = operation(style, i, size);
                instruction(f, operation, number(operation, size));
            }
            for (int h = below(3); h > 0; h--) {
                aHandler(f, size);
            }
        }
        for (int i = below(6); i > 0; i--) {
            anAnswer();
        }
    }

    private void instruction(int f, int operation, int number) {
        same("add " + f + " " + operation + " " + number, x.add(f, operation, number),
                model.add(f, operation, number));
    }

    /** Pieces of code that are right for themselves, so that a RUN goes on for long. */
    private void pieces(int f) {
        int n = below(5) < 2 ? 0 : below(3) == 0 ? below(66) : below(4);
        int[][] pieces = {
            {0, n, 21, 0, 1, 0},
            {0, n, 21, 0, 2, 0, 0, below(3), 0, anyInt(), 23, 0, 5, 0},
            {4, 0, 0, near(3), 22, 0, 1, 0},
            {0, anyInt(), 0, anyInt(), 6 + below(12), 0, 5, near(2)},
            {26, 4 * below(4), 5, near(2)},
            {0, anyInt(), 0, anyInt(), 0, anyInt(), 26, 3 + 4 * below(4), 1, 0},
            {4, 1, 19, 0, 0, 1, 5, 1},
            {0, anyInt(), 0, anyInt(), 25, near(2)},
            {25, near(2)},
            {0, n, 21, 0, 25, near(2), 1, 0},
        };
        int chosen = below(3) == 0 ? below(pieces.length) : -1;
        for (int times = 1 + below(5); times > 0; times--) {
            int[] piece = pieces[chosen >= 0 ? chosen : below(pieces.length)];
            for (int i = 0; i < piece.length; i += 2) {
                instruction(f, piece[i], piece[i + 1]);
            }
        }
        instruction(f, below(3) == 0 ? 27 : 18, 0);
    }

    /** Style 0 is any; 1 puts more than it takes; 2 makes many rows, calls and calls outside. */
    private int operation(int style, int i, int size) {
        if (i == size - 1 && below(4) > 0) {
            return below(3) == 0 ? 18 : 27;
        }
        int way = below(100);
        if (style == 0 && way < 20) {
            return near(29);
        }
        if (way < 35 + 10 * style) {
            return below(4) == 0 ? 4 : 0;
        }
        if (style == 2 && way < 85) {
            int[] some = {21, 21, 25, 26, 26, 1, 1, 22, 23, 24, 5, 18};
            return some[below(some.length)];
        }
        return 1 + below(28);
    }

    private int number(int operation, int size) {
        switch (operation) {
            case 0: return anyInt();
            case 4: case 5: return near(4);
            case 18: case 19: case 20: return near(size + 1);
            case 25: return near(3);
            case 26: return near(16);
            default: return below(9) == 0 ? anyInt() : 0;
        }
    }

    private void aHandler(int f, int size) {
        int from = near(size);
        int to = below(2) == 0 ? 100 : near(size + 1);
        int target = near(size);
        same("handler", x.handler(f, from, to, target), model.handler(f, from, to, target));
        if (below(2) == 0) {
            int code = below(3) == 0 ? anyInt() : 1 + below(4);
            same("only", x.only(f, code), model.only(f, code));
        }
    }

    private void anAnswer() {
        int v = anyInt();
        same("answer", x.answer(v), model.answer(v));
    }

    private void anyBuildCall() {
        int f = near(3);
        int i = near(20);
        int operation = near(29);
        int number = number(operation, 20);
        switch (below(8)) {
            case 0: same("function", x.function(f, i, number), model.function(f, i, number)); break;
            case 1: same("add", x.add(f, operation, number), model.add(f, operation, number)); break;
            case 2: case 3:
                same("change", x.change(f, i, operation, number), model.change(f, i, operation, number));
                break;
            case 4: aHandler(f, 20); break;
            case 5: same("only", x.only(f, number), model.only(f, number)); break;
            case 6: anAnswer(); break;
            default:
                if (below(4) == 0) {
                    x.forget();
                    model.forget();
                }
                calls++;
        }
    }

    private void start() {
        if (below(3) > 0) {
            x.begin();
            model.begin();
            calls++;
        }
        for (int times = below(6); times >= 0; times--) {
            int n = below(4) == 0 ? EDGES[below(EDGES.length)] : 1 + below(40);
            same("go " + n, x.go(n), model.go(n));
            look();
            count();
        }
    }

    private static void most(Model m) {
        deepest = Math.max(deepest, m.look(5));
        mostRows = Math.max(mostRows, m.look(6));
        mostInts = Math.max(mostInts, m.look(7));
        mostOutside = Math.max(mostOutside, m.look(3));
    }

    private void count() {
        int how = model.look(0);
        ENDS[how == StackRun.NONE ? 3 : how]++;
        most(model);
    }

    private void look() {
        for (int times = below(12); times >= 0; times--) {
            int k = near(3);
            int i = near(4);
            int many = below(2) == 0 ? near(16) : near(70);
            boolean locals = random.nextBoolean();
            switch (below(6)) {
                case 0: same("frame " + k + " " + i, x.frame(k, i), model.frame(k, i)); break;
                case 1: same("value " + k + " " + i, x.value(k, locals, i), model.value(k, locals, i)); break;
                case 2: same("kind " + k + " " + i, x.kind(k, locals, i), model.kind(k, locals, i)); break;
                case 3: same("row " + many + " " + i, x.row(many, i), model.row(many, i)); break;
                case 4: same("trace " + many + " " + i, x.trace(many, i), model.trace(many, i)); break;
                default:
                    int which = near(10);
                    same("look " + which, x.look(which), model.look(which));
            }
        }
    }
}
