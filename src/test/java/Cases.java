import java.lang.reflect.InvocationTargetException;
import java.lang.reflect.Method;
import java.lang.reflect.Modifier;
import java.util.Arrays;
import java.util.Comparator;

/** What the tests with answers worked out by hand have in common. */
class Cases {
    static final int NONE = -1, BAD = -2, STATE = -3, FULL = -4;
    static final int PUSH = 0, LOAD = 1, STORE = 2, POP = 3, DUP = 4, SWAP = 5, ADD = 6, SUB = 7;
    static final int MUL = 8, DIV = 9, REM = 10, NEG = 11, AND = 12, OR = 13, XOR = 14, SHL = 15;
    static final int SHR = 16, GOTO = 17, LESS = 18, SAME = 19, NULL = 20, NEW = 21, GET = 22;
    static final int SET = 23, LENGTH = 24, CALL = 25, RETURN = 26, THROW = 27, NOTHING = 28;
    static final int NATIVE = 29;
    static final int LOW = Integer.MIN_VALUE, HIGH = Integer.MAX_VALUE;

    static final Check CHECK = new Check();

    /**
     * Runs every test of a class, each for itself: its static methods without parameters. By
     * reflection, so that none is forgotten; a test that looks at nothing, or throws, is wrong.
     */
    static void runAll(Class<?> tests) throws IllegalAccessException {
        Method[] methods = tests.getDeclaredMethods();
        Arrays.sort(methods, Comparator.comparing(Method::getName));
        int count = 0;
        for (Method method : methods) {
            if (Modifier.isStatic(method.getModifiers()) && !method.isSynthetic()
                    && method.getParameterCount() == 0 && method.getReturnType() == void.class) {
                count++;
                runOne(method);
            }
        }
        CHECK.end(tests.getName() + ", " + count + " tests");
    }

    private static void runOne(Method method) throws IllegalAccessException {
        int before = CHECK.looked();
        CHECK.in(method.getName());
        try {
            method.invoke(null);
        } catch (InvocationTargetException thrown) {
            CHECK.due(thrown.getCause().toString(), true, false);
        }
        CHECK.due("looks at an answer", true, CHECK.looked() > before);
    }

    /** The sentence of the document that a test is about: it stands ahead of each wrong answer. */
    static void says(String sentence) {
        CHECK.in("'" + sentence + "'");
    }

    static void due(String call, int want, int got) {
        CHECK.due(call, want, got);
    }

    static void due(String call, boolean want, boolean got) {
        CHECK.due(call, want, got);
    }

    /** Pairs of an operation and its number behind those of a method. */
    static void code(PathRunner r, int method, int... pairs) {
        for (int i = 0; i < pairs.length; i += 2) {
            if (r.operation(method, pairs[i], pairs[i + 1]) < 0) {
                due("operation " + pairs[i] + " " + pairs[i + 1], 0, BAD);
            }
        }
    }

    /** The same operation so many times. */
    static void repeat(PathRunner r, int method, int many, int op, int a) {
        for (int i = 0; i < many; i++) {
            code(r, method, op, a);
        }
    }

    /** A new object with one method of two arguments. */
    static PathRunner with(int... pairs) {
        PathRunner r = new PathRunner(7);
        r.method(2);
        code(r, 0, pairs);
        return r;
    }

    /** The same, and a method 1 with so many arguments. */
    static PathRunner withCalled(int arguments, int[] called, int... pairs) {
        PathRunner r = with(pairs);
        r.method(arguments);
        code(r, 1, called);
        return r;
    }

    /** Outcome, place, kind or word, count of a plain run of method 0. */
    static void ends(String what, PathRunner r, int x, int y, int bound, int... want) {
        for (int i = 0; i < want.length; i++) {
            due(what + ": plain(0, " + x + ", " + y + ", " + bound + ", " + i + ")", want[i],
                    r.plain(0, x, y, bound, i));
        }
    }

    static void pathIs(PathRunner r, int k, int... want) {
        for (int i = 0; i < want.length; i++) {
            due("path(" + k + ", " + i + ")", want[i], r.path(k, i));
        }
    }

    /** Place and alternative of each condition. */
    static void conditionsAre(PathRunner r, int k, int... want) {
        due("path(" + k + ", 4)", want.length / 2, r.path(k, 4));
        for (int i = 0; i < want.length; i++) {
            due("condition(" + k + ", " + i / 2 + ", " + i % 2 + ")", want[i],
                    r.condition(k, i / 2, i % 2));
        }
    }

    static void tokensAre(PathRunner r, int k, int... want) {
        due("path(" + k + ", 6)", want.length, r.path(k, 6));
        for (int i = 0; i < want.length; i++) {
            due("token(" + k + ", " + i + ")", want[i], r.token(k, i));
        }
        due("token behind the last", NONE, r.token(k, want.length));
        due("token ahead of the first", NONE, r.token(k, -1));
    }

    /** x below 0, or y below 0; then y below 5. */
    static PathRunner crossing() {
        return with(LOAD, 0, PUSH, 0, LESS, 8, LOAD, 1, PUSH, 0, LESS, 8, LOAD, 0, RETURN, 0,
                LOAD, 1, PUSH, 5, LESS, 12, PUSH, 1, LOAD, 1, RETURN, 0);
    }
}
