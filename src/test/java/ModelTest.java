import java.util.ArrayList;
import java.util.Arrays;
import java.util.List;
import java.util.Random;

/** Random methods and random calls, beside the model. The random source has fixed seeds. */
public final class ModelTest {
    private static final int RUNS = 800;
    private static final int CALLS = 512;

    private final Random random;
    private final PathRunner real;
    private final Model model;
    private final Check check;
    private int calls;

    private ModelTest(int seed, Check check) {
        random = new Random(seed);
        int start = random.nextInt(4) == 0 ? random.nextInt() : random.nextInt(20) - 10;
        real = new PathRunner(start);
        model = new Model(start);
        this.check = check;
        check.in("run " + seed);
    }

    public static void main(String[] args) {
        Check check = new Check();
        int[] outcomes = new int[8];
        int[] most = new int[5];
        int runs = args.length > 0 ? Integer.parseInt(args[0]) : RUNS;
        for (int seed = 0; seed < runs && check.wrong() < 20; seed++) {
            ModelTest run = new ModelTest(seed, check);
            if (seed % 8 == 1) {
                run.buildWide();
            } else if (seed % 3 == 0) {
                run.build();
            } else {
                run.buildClean();
            }
            while (run.calls < CALLS) {
                run.wander();
            }
            for (int k = 0; k < run.real.told(4); k++) {
                outcomes[run.real.path(k, 0)]++;
            }
            for (int what = 0; what < 5; what++) {
                most[what] = Math.max(most[what], run.real.told(what));
            }
        }
        System.out.println("outcomes of the last searches: " + Arrays.toString(outcomes)
                + ", most told: " + Arrays.toString(most));
        check.end("ModelTest");
    }

    // ---- building

    private void build() {
        method(2);
        int others = random.nextInt(3);
        for (int i = 0; i < others; i++) {
            method(random.nextInt(4));
        }
        for (int m = 0; m <= others; m++) {
            int length = 5 + random.nextInt(31);
            if (random.nextInt(3) > 0) {
                prepareArray(m);
            }
            while (model.methods.get(m).ops.size() < length && calls < 300) {
                statement(m);
            }
            if (random.nextInt(8) > 0) {
                word(m, 2);
                operation(m, 26, 0);
            }
        }
        for (int i = random.nextInt(4); i > 0; i--) {
            int from = random.nextInt(20);
            handler(random.nextInt(others + 1), from, from + 1 + random.nextInt(20), random.nextInt(20),
                    random.nextBoolean() ? 0 : 1 + random.nextInt(12));
        }
    }

    /** A loop that stirs x and y and asks for them: many ways, more than the row holds. */
    private void buildWide() {
        method(2);
        List<int[]> ops = new ArrayList<>();
        int asked = 2 + random.nextInt(3);
        for (int i = 0; i < asked; i++) {
            int to = random.nextInt(2);
            ops.add(new int[] {1, to});
            ops.add(new int[] {0, random.nextInt(7) + 1});
            ops.add(new int[] {new int[] {6, 8, 14, 16, 10}[random.nextInt(5)], 0});
            ops.add(new int[] {1, 1 - to});
            if (random.nextInt(4) == 0) {
                ops.add(new int[] {0, 5});
                ops.add(new int[] {12, 0});
                ops.add(new int[] {21, 0});
                ops.add(new int[] {3, 0});
                ops.add(new int[] {3, 0});
            } else {
                ops.add(new int[] {18 + random.nextInt(2), ops.size() + 1});
            }
        }
        ops.add(new int[] {1, 0});
        ops.add(new int[] {1, 1});
        ops.add(new int[] {random.nextBoolean() ? 6 : 14, 0});
        ops.add(new int[] {2, random.nextInt(2)});
        if (random.nextBoolean()) {
            ops.add(new int[] {1, 0});
            ops.add(new int[] {0, random.nextInt(40) - 20});
            ops.add(new int[] {18, 39});
        }
        ops.add(new int[] {17, 0});
        for (int[] op : ops) {
            operation(0, op[0], op[1]);
        }
    }

    /** Whole statements, jumps only to where one begins: few runs are BROKEN, many split often. */
    private void buildClean() {
        method(2);
        int others = random.nextInt(3);
        for (int i = 0; i < others; i++) {
            method(random.nextInt(4));
        }
        for (int m = 0; m <= others; m++) {
            List<int[]> ops = cleanMethod(m, others);
            for (int[] op : ops) {
                operation(m, op[0], op[1]);
            }
            for (int i = random.nextInt(3); i > 0; i--) {
                int from = random.nextInt(ops.size());
                handler(m, from, from + 1 + random.nextInt(40 - from), ops.size() - 2,
                        random.nextInt(3) > 0 ? 0 : 1 + random.nextInt(12));
            }
        }
    }

    private List<int[]> cleanMethod(int m, int others) {
        List<int[]> ops = new ArrayList<>();
        List<Integer> starts = new ArrayList<>();
        for (int local = model.methods.get(m).arguments; local < 4; local++) {
            ops.add(new int[] {0, random.nextInt(6) - 1});
            ops.add(new int[] {2, local});
        }
        while (ops.size() < 30) {
            int before = ops.size();
            starts.add(before);
            cleanStatement(ops, others);
            if (ops.size() > 38) {
                while (ops.size() > before) {
                    ops.remove(ops.size() - 1);
                }
                break;
            }
        }
        starts.add(ops.size());
        ops.add(new int[] {1, random.nextInt(3)});
        ops.add(new int[] {26, 0});
        for (int[] op : ops) {
            if (op[0] >= 17 && op[0] <= 20) {
                op[1] = starts.get(Math.min(op[1], starts.size() - 1));
            }
        }
        return ops;
    }

    /** The target of a jump is the number of a statement here. */
    private void cleanStatement(List<int[]> ops, int others) {
        int near = random.nextInt(8);
        int kind = random.nextInt(13);
        if (kind < 3) {
            cleanWord(ops, 2, others);
            ops.add(new int[] {2, random.nextInt(4)});
        } else if (kind < 7) {
            cleanWord(ops, 1, others);
            cleanWord(ops, random.nextInt(2), others);
            ops.add(new int[] {18 + random.nextInt(2), near});
        } else if (kind < 8) {
            cleanArray(ops, others);
            cleanWord(ops, 1, others);
            cleanWord(ops, 1, others);
            ops.add(new int[] {23, 0});
        } else if (kind < 9) {
            cleanArray(ops, others);
            cleanWord(ops, 1, others);
            ops.add(new int[] {22, 0});
            ops.add(new int[] {2, random.nextInt(4)});
        } else if (kind < 10) {
            cleanArray(ops, others);
            ops.add(new int[] {2, 4});
        } else if (kind < 11) {
            ops.add(new int[] {17, near});
        } else if (kind < 12) {
            ops.add(random.nextBoolean() ? new int[] {27, 7 + random.nextInt(6)}
                    : new int[] {29, 1 + random.nextInt(3)});
        } else {
            cleanArray(ops, others);
            ops.add(random.nextBoolean() ? new int[] {20, near} : new int[] {26, 0});
        }
    }

    private void cleanArray(List<int[]> ops, int others) {
        int kind = random.nextInt(8);
        if (kind == 0) {
            ops.add(new int[] {28, 0});
        } else if (kind == 1) {
            ops.add(new int[] {1, 4});
        } else {
            cleanWord(ops, kind == 2 ? 1 : 0, others);
            ops.add(new int[] {21, 0});
        }
    }

    private void cleanWord(List<int[]> ops, int depth, int others) {
        int kind = random.nextInt(depth > 0 ? 12 : 6);
        if (kind < 5) {
            ops.add(new int[] {1, random.nextInt(kind < 3 ? 2 : 4)});
        } else if (kind == 5) {
            ops.add(new int[] {0, random.nextInt(9) - 3});
        } else if (kind == 6) {
            cleanWord(ops, depth - 1, others);
            ops.add(new int[] {random.nextBoolean() ? 11 : 29, 0});
        } else if (kind == 7) {
            int other = random.nextInt(others + 1);
            for (int i = 0; i < model.methods.get(other).arguments; i++) {
                cleanWord(ops, 0, others);
            }
            ops.add(new int[] {25, other});
        } else {
            cleanWord(ops, depth - 1, others);
            cleanWord(ops, depth - 1, others);
            int op = 6 + random.nextInt(11);
            ops.add(new int[] {op == 11 ? 9 : op, 0});
        }
    }

    private void prepareArray(int m) {
        if (random.nextInt(3) == 0) {
            word(m, 1);
        } else {
            operation(m, 0, random.nextInt(6));
        }
        operation(m, 21, 0);
        operation(m, 2, 4);
    }

    private void statement(int m) {
        int size = model.methods.get(m).ops.size();
        int near = Math.min(39, random.nextInt(5) == 0 ? random.nextInt(40) : size + random.nextInt(9));
        switch (random.nextInt(14)) {
            case 0: case 1:
                word(m, 2);
                operation(m, 2, random.nextInt(3));
                break;
            case 2: case 3: case 4:
                word(m, 1);
                word(m, 1);
                operation(m, 18 + random.nextInt(2), near);
                break;
            case 5:
                operation(m, 1, 4);
                word(m, 1);
                word(m, 1);
                operation(m, 23, 0);
                break;
            case 6:
                operation(m, 1, 4);
                word(m, 1);
                operation(m, 22, 0);
                operation(m, 2, random.nextInt(3));
                break;
            case 7:
                prepareArray(m);
                break;
            case 8:
                operation(m, 17, near);
                break;
            case 9:
                operation(m, 1, 4);
                operation(m, random.nextBoolean() ? 20 : 24, near);
                break;
            case 10:
                operation(m, random.nextBoolean() ? 27 : 29, 7 + random.nextInt(6));
                break;
            case 11:
                operation(m, 28, 0);
                operation(m, random.nextBoolean() ? 2 : 26, 4 + random.nextInt(2));
                break;
            case 12:
                operation(m, 3 + random.nextInt(3), 0);
                break;
            default:
                operation(m, random.nextInt(30), random.nextInt(6));
                break;
        }
    }

    private void word(int m, int depth) {
        int kind = random.nextInt(depth > 0 ? 10 : 5);
        if (kind < 4) {
            operation(m, 1, Math.max(0, random.nextInt(4) - 1));
        } else if (kind == 4) {
            operation(m, 0, random.nextInt(5) == 0 ? random.nextInt(256) - 128 : random.nextInt(9) - 3);
        } else if (kind == 5) {
            word(m, depth - 1);
            operation(m, random.nextBoolean() ? 11 : 29, 0);
        } else if (kind == 6) {
            int other = random.nextInt(model.methods.size());
            for (int i = 0; i < model.methods.get(other).arguments; i++) {
                word(m, 0);
            }
            operation(m, 25, other);
        } else {
            word(m, depth - 1);
            word(m, depth - 1);
            int op = 6 + random.nextInt(11);
            operation(m, op == 11 ? 9 : op, 0);
        }
    }

    // ---- calls, on the object and on the model

    private void wander() {
        int kind = random.nextInt(100);
        if (kind < 4 || kind < 50 && model.told(0) == PathRunner.STATE) {
            search(random.nextInt(8) == 0 ? odd(7) : 0, random.nextInt(12) == 0 ? odd(202)
                    : 1 + random.nextInt(200), random.nextInt(12) == 0 ? odd(5) : random.nextInt(4),
                    random.nextInt(12) == 0 ? odd(102) : 1 + random.nextInt(100));
        } else if (kind < 8) {
            int many = random.nextInt(3) == 0 ? odd(102) : 1 + random.nextInt(9);
            due("more(" + many + ")", model.more(many), real.more(many));
        } else if (kind < 9) {
            change();
        } else if (kind < 11) {
            due("agrees()", model.agrees(), real.agrees());
        } else if (kind < 25) {
            plain(random.nextInt(10) == 0 ? odd(7) : 0, odd(128) - odd(129), odd(128) - odd(129),
                    random.nextInt(10) == 0 ? odd(202) : 1 + random.nextInt(200), odd(4));
        } else {
            observe();
        }
    }

    private void change() {
        int kind = random.nextInt(3);
        if (kind == 0) {
            method(odd(5));
        } else if (kind == 1) {
            operation(odd(model.methods.size() + 1), odd(31), odd(41));
        } else {
            handler(odd(model.methods.size() + 1), odd(42), odd(42), odd(41), odd(14));
        }
    }

    private void observe() {
        int k = odd(Math.max(1, model.told(4)) + 1);
        int i = odd(1 + random.nextInt(12));
        int what = odd(2);
        int x = random.nextInt(34) - 17;
        int y = random.nextInt(34) - 17;
        switch (random.nextInt(10)) {
            case 0: due("told(" + i + ")", model.told(i), real.told(i)); break;
            case 1: int fact = odd(7); due("path(" + k + ", " + fact + ")", model.path(k, fact), real.path(k, fact)); break;
            case 2: due("condition(" + k + ", " + i + ", " + what + ")", model.condition(k, i, what), real.condition(k, i, what)); break;
            case 3: due("token(" + k + ", " + i + ")", model.token(k, i), real.token(k, i)); break;
            case 4: due("value(" + k + ", " + x + ", " + y + ")", model.value(k, x, y), real.value(k, x, y)); break;
            case 5: due("along(" + x + ", " + y + ")", model.along(x, y), real.along(x, y)); break;
            case 6: int n = odd(1100); due("input(" + k + ", " + n + ")", model.input(k, n), real.input(k, n)); break;
            case 7: due("flip(" + k + ", " + i + ")", model.flip(k, i), real.flip(k, i)); break;
            case 8: int p = odd(32); due("pruned(" + p + ", " + what + ")", model.pruned(p, what), real.pruned(p, what)); break;
            default: int m = odd(3); int o = odd(41); due("times(" + m + ", " + o + ")", model.times(m, o), real.times(m, o)); break;
        }
    }

    /** Mostly 0 .. below, seldom something far outside. */
    private int odd(int below) {
        int[] far = {-1, below, below + 1, Integer.MIN_VALUE, Integer.MAX_VALUE, -129, 1 << 16};
        return random.nextInt(25) == 0 ? far[random.nextInt(far.length)] : random.nextInt(Math.max(1, below));
    }

    private void due(String call, int want, int got) {
        calls++;
        check.due(call, want, got);
    }

    private void due(String call, boolean want, boolean got) {
        calls++;
        check.due(call, want, got);
    }

    private void method(int arguments) {
        due("method(" + arguments + ")", model.method(arguments), real.method(arguments));
    }

    private void operation(int m, int op, int a) {
        due("operation(" + m + ", " + op + ", " + a + ")", model.operation(m, op, a), real.operation(m, op, a));
    }

    private void handler(int m, int from, int to, int target, int kind) {
        due("handler(" + m + ", " + from + ", " + to + ", " + target + ", " + kind + ")",
                model.handler(m, from, to, target, kind), real.handler(m, from, to, target, kind));
    }

    private void search(int m, int bound, int order, int many) {
        due("search(" + m + ", " + bound + ", " + order + ", " + many + ")",
                model.search(m, bound, order, many), real.search(m, bound, order, many));
    }

    private void plain(int m, int x, int y, int bound, int what) {
        due("plain(" + m + ", " + x + ", " + y + ", " + bound + ", " + what + ")",
                model.plain(m, x, y, bound, what), real.plain(m, x, y, bound, what));
    }
}
