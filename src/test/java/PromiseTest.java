import java.util.ArrayList;
import java.util.List;

/** Each promise by itself: ordinary inputs, edges, wrong inputs. The answers were worked out by hand. */
public final class PromiseTest extends Cases {
    public static void main(String[] args) {
        newObject();
        method();
        operation();
        operationForgets();
        handler();
        search();
        searchOrders();
        scatteredOrder();
        more();
        told();
        lostWays();
        manyPaths();
        path();
        outcomes();
        condition();
        token();
        value();
        along();
        input();
        flip();
        pruned();
        times();
        plain();
        plainWords();
        plainThrows();
        plainBroken();
        plainHandlers();
        plainCalls();
        splits();
        splitEdges();
        big();
        agrees();
        CHECK.end("PromiseTest");
    }

    private static void newObject() {
        CHECK.in("promise 1");
        PathRunner r = new PathRunner(0);
        due("operation", BAD, r.operation(0, PUSH, 0));
        due("handler", BAD, r.handler(0, 0, 1, 0, 0));
        due("search", BAD, r.search(0, 10, 0, 1));
        due("plain", BAD, r.plain(0, 0, 0, 10, 0));
        due("more", STATE, r.more(0));
        due("told", STATE, r.told(99));
        due("path", STATE, r.path(-1, 99));
        due("condition", STATE, r.condition(-1, -1, 99));
        due("token", STATE, r.token(-1, -1));
        due("value", STATE, r.value(-1, 99, 99));
        due("along", STATE, r.along(99, 99));
        due("along", STATE, r.along(0, 0));
        due("input", STATE, r.input(-1, -1));
        due("flip", STATE, r.flip(-1, -1));
        due("pruned", STATE, r.pruned(-1, 99));
        due("times", STATE, r.times(99, 99));
        due("agrees", false, r.agrees());
        due("method", 0, r.method(2));
    }

    private static void method() {
        CHECK.in("promise 2");
        PathRunner r = new PathRunner(0);
        due("method(-1)", BAD, r.method(-1));
        due("method(4)", BAD, r.method(4));
        due("method(LOW)", BAD, r.method(LOW));
        due("method(HIGH)", BAD, r.method(HIGH));
        for (int i = 0; i < 6; i++) {
            due("method " + i, i, r.method(i % 4));
        }
        due("a seventh", FULL, r.method(0));
        due("BAD ahead of FULL", BAD, r.method(4));
        due("search with 0 arguments", BAD, r.search(0, 9, 0, 9));
        due("search with 1 argument", BAD, r.search(1, 9, 0, 9));
        due("search with 2 arguments", 1, r.search(2, 9, 0, 9));
        due("search with 3 arguments", BAD, r.search(3, 9, 0, 9));

        PathRunner kept = with(LOAD, 0, RETURN, 0);
        kept.search(0, 9, 0, 9);
        due("a method more", 1, kept.method(1));
        due("what was searched is kept", 1, kept.told(4));
    }

    private static void operation() {
        CHECK.in("promise 3");
        PathRunner r = new PathRunner(0);
        r.method(2);
        due("method -1", BAD, r.operation(-1, ADD, 0));
        due("method 1", BAD, r.operation(1, ADD, 0));
        due("method HIGH", BAD, r.operation(HIGH, ADD, 0));
        due("operation -1", BAD, r.operation(0, -1, 0));
        due("operation 30", BAD, r.operation(0, 30, 0));
        due("operation HIGH", BAD, r.operation(0, HIGH, 0));
        int[][] limits = {{PUSH, -128, 127}, {LOAD, 0, 5}, {STORE, 0, 5}, {GOTO, 0, 39}, {LESS, 0, 39},
            {SAME, 0, 39}, {NULL, 0, 39}, {CALL, 0, 5}, {THROW, 7, 12}, {NATIVE, 0, 3}};
        int count = 0;
        for (int[] limit : limits) {
            due(limit[0] + " too low", BAD, r.operation(0, limit[0], limit[1] - 1));
            due(limit[0] + " too high", BAD, r.operation(0, limit[0], limit[2] + 1));
            due(limit[0] + " lowest", ++count, r.operation(0, limit[0], limit[1]));
            due(limit[0] + " highest", ++count, r.operation(0, limit[0], limit[2]));
        }
        int[] others = {POP, DUP, SWAP, ADD, SUB, MUL, DIV, REM, NEG, AND, OR, XOR, SHL, SHR, NEW, GET,
            SET, LENGTH, RETURN, NOTHING};
        for (int op : others) {
            due(op + " with any number", ++count, r.operation(0, op, count % 2 == 0 ? LOW : HIGH));
        }
        due("all 40", 40, count);
        due("a 41st", FULL, r.operation(0, ADD, 0));
        due("BAD ahead of FULL", BAD, r.operation(0, 30, 0));
        due("another method", 1, r.method(0));
        due("its first operation", 1, r.operation(1, ADD, 0));
    }

    private static void operationForgets() {
        CHECK.in("promises 3 and 4: forgotten");
        PathRunner r = with(LOAD, 0, RETURN, 0);
        due("search", 1, r.search(0, 9, 0, 9));
        r.operation(0, 30, 0);
        r.handler(0, 3, 3, 0, 0);
        due("BAD forgets nothing", 1, r.told(4));
        due("operation", 3, r.operation(0, ADD, 0));
        due("told", STATE, r.told(4));
        due("more", STATE, r.more(1));
        due("agrees", false, r.agrees());
        due("search", 1, r.search(0, 9, 0, 9));
        due("handler", 1, r.handler(0, 0, 1, 0, 0));
        due("told", STATE, r.told(4));
        r.handler(0, 0, 1, 0, 0);
        r.handler(0, 0, 1, 0, 0);
        r.handler(0, 0, 1, 0, 0);
        for (int i = 3; i < 40; i++) {
            r.operation(0, ADD, 0);
        }
        due("search", 1, r.search(0, 9, 0, 9));
        due("FULL", FULL, r.operation(0, ADD, 0));
        due("FULL", FULL, r.handler(0, 0, 1, 0, 0));
        due("FULL forgets nothing", 1, r.told(4));
    }

    private static void handler() {
        CHECK.in("promise 4");
        PathRunner r = new PathRunner(0);
        r.method(2);
        due("method -1", BAD, r.handler(-1, 0, 1, 0, 0));
        due("method 1", BAD, r.handler(1, 0, 1, 0, 0));
        due("from -1", BAD, r.handler(0, -1, 1, 0, 0));
        due("to 41", BAD, r.handler(0, 0, 41, 0, 0));
        due("from 40", BAD, r.handler(0, 40, 40, 0, 0));
        due("from not below to", BAD, r.handler(0, 5, 5, 0, 0));
        due("from above to", BAD, r.handler(0, 6, 5, 0, 0));
        due("target -1", BAD, r.handler(0, 0, 1, -1, 0));
        due("target 40", BAD, r.handler(0, 0, 1, 40, 0));
        due("kind -1", BAD, r.handler(0, 0, 1, 0, -1));
        due("kind 13", BAD, r.handler(0, 0, 1, 0, 13));
        due("first", 1, r.handler(0, 0, 40, 39, 12));
        due("second", 2, r.handler(0, 39, 40, 0, 0));
        due("third", 3, r.handler(0, 0, 1, 0, 1));
        due("fourth", 4, r.handler(0, 0, 1, 0, 2));
        due("a fifth", FULL, r.handler(0, 0, 1, 0, 3));
        due("BAD ahead of FULL", BAD, r.handler(0, 0, 0, 0, 3));
    }

    private static void search() {
        CHECK.in("promise 5");
        PathRunner r = with(LOAD, 0, RETURN, 0);
        due("method -1", BAD, r.search(-1, 9, 0, 9));
        due("method 1", BAD, r.search(1, 9, 0, 9));
        due("bound 0", BAD, r.search(0, 0, 0, 9));
        due("bound 201", BAD, r.search(0, 201, 0, 9));
        due("order -1", BAD, r.search(0, 9, -1, 9));
        due("order 4", BAD, r.search(0, 9, 4, 9));
        due("many 0", BAD, r.search(0, 9, 0, 0));
        due("many 101", BAD, r.search(0, 9, 0, 101));
        due("nothing was searched", STATE, r.told(0));
        due("least", 1, r.search(0, 1, 0, 1));
        pathIs(r, 0, 4, 1, 0, 1, 0, 1024, 0);
        due("most", 1, r.search(0, 200, 3, 100));
        pathIs(r, 0, 1, 1, 0, 2, 0, 1024, 1);
        due("BAD", BAD, r.search(0, 0, 0, 9));
        due("BAD leaves what was searched", 1, r.told(4));
    }

    private static void searchOrders() {
        CHECK.in("promise 5, order 0");
        PathRunner r = crossing();
        due("search", 4, r.search(0, 99, 0, 99));
        conditionsAre(r, 0, 2, 0, 10, 0);
        conditionsAre(r, 1, 2, 0, 10, 1);
        conditionsAre(r, 2, 2, 1, 5, 0, 10, 0);
        conditionsAre(r, 3, 2, 1, 5, 1);
        CHECK.in("promise 5, order 1");
        due("search", 4, r.search(0, 99, 1, 99));
        conditionsAre(r, 0, 2, 0, 10, 0);
        conditionsAre(r, 1, 2, 0, 10, 1);
        conditionsAre(r, 2, 2, 1, 5, 1);
        conditionsAre(r, 3, 2, 1, 5, 0, 10, 0);

        CHECK.in("promise 5, a loop");
        PathRunner loop = with(LOAD, 0, PUSH, 1, SUB, 0, STORE, 0, LOAD, 0, PUSH, 0, LESS, 0,
                LOAD, 1, PUSH, 0, LESS, 11, NOTHING, 0, LOAD, 1, RETURN, 0);
        due("order 1", 1, loop.search(0, 99, 1, 1));
        conditionsAre(loop, 0, 6, 1, 9, 0);
        due("the loop went twice", 26, loop.told(3));
        due("order 3", 1, loop.search(0, 99, 3, 1));
        conditionsAre(loop, 0, 6, 1, 9, 0);
        due("the loop went once", 19, loop.told(3));
        due("order 0", 1, loop.search(0, 99, 0, 1));
        pathIs(loop, 0, 4, 1, 0, 99, 14, 544, 0);
    }

    /** NEW of x: alternative 0 returns, and so on: eight ways, which end when they are taken. */
    private static void scatteredOrder() {
        CHECK.in("promise 5, order 2");
        int[] seeds = {0, 1, -1, 12345, HIGH, LOW};
        for (int seed : seeds) {
            PathRunner r = new PathRunner(seed);
            r.method(2);
            code(r, 0, LOAD, 0, NEW, 0, RETURN, 0);
            for (int again = 0; again < 2; again++) {
                int z = seed * 1664525 + 1013904223;
                due("search", 3, r.search(0, 9, 2, 3));
                due("more", 8, r.more(9));
                List<Integer> row = new ArrayList<>(List.of(0, 1, 2, 3, 4, 5, 6, 7));
                for (int k = 0; k < 8; k++) {
                    z = z * 1664525 + 1013904223;
                    due("seed " + seed + " path " + k, row.remove((z >>> 8) % row.size()),
                            r.condition(k, 0, 1));
                }
            }
        }
    }

    private static void more() {
        CHECK.in("promise 6");
        PathRunner r = crossing();
        due("search", 1, r.search(0, 99, 0, 1));
        due("more(0)", BAD, r.more(0));
        due("more(LOW)", BAD, r.more(LOW));
        due("still one", 1, r.told(4));
        due("more(2)", 3, r.more(2));
        conditionsAre(r, 2, 2, 1, 5, 0, 10, 0);
        due("more(HIGH)", 4, r.more(HIGH));
        due("more, when none waits", 4, r.more(1));
    }

    private static void told() {
        CHECK.in("promise 7");
        PathRunner r = crossing();
        r.search(0, 99, 0, 2);
        due("told(-1)", BAD, r.told(-1));
        due("told(5)", BAD, r.told(5));
        due("waiting", 1, r.told(0));
        due("lost", 0, r.told(1));
        due("pruned", 0, r.told(2));
        // 0 1 2, 8 9 10, 12 13, 11 12 13
        due("come to", 11, r.told(3));
        due("paths", 2, r.told(4));
        r.more(9);
        due("waiting", 0, r.told(0));
        due("pruned: y below 0 is below 5", 1, r.told(2));
        // 3 4 5, 8 9 10 12 13, 6 7
        due("come to", 21, r.told(3));
        due("paths", 4, r.told(4));
    }

    /** A loop that asks for the lowest bit of x, then of y, and shifts both. */
    private static PathRunner halving() {
        return with(LOAD, 0, PUSH, 1, AND, 0, PUSH, 1, SAME, 5, LOAD, 1, PUSH, 1, AND, 0, PUSH, 1,
                SAME, 10, LOAD, 0, PUSH, 1, SHR, 0, STORE, 0, LOAD, 1, PUSH, 1, SHR, 0, STORE, 1, GOTO, 0);
    }

    private static void lostWays() {
        CHECK.in("promise 7, lost");
        PathRunner r = halving();
        // The sixth split makes 64 of 32: 28 taken out fill the row, the other four lose one each.
        due("60 ways", 60, r.search(0, 55, 1, 100));
        due("lost", 4, r.told(1));
        due("none waits", 0, r.told(0));
        int[] taken = new int[2];
        for (int k = 0; k < 60; k++) {
            due("inputs of " + k, 16, r.path(k, 5));
            taken[r.condition(k, 5, 1)]++;
        }
        due("first alternatives", 32, taken[0]);
        due("second alternatives", 28, taken[1]);
        due("the last path", 0, r.condition(59, 5, 1));
        due("an input that is lost", NONE, r.along(-16, -16));
        due("a flip may be lost", true, r.flip(59, 5) >= 0);
        due("agrees", true, r.agrees());
        due("the row full", 1, r.search(0, 50, 1, 1));
        due("waits", 59, r.told(0));
        due("lost", 4, r.told(1));
    }

    /** Depth first the row never fills; 100 paths are the most. */
    private static void manyPaths() {
        CHECK.in("promises 5 and 6, 100 paths");
        PathRunner r = halving();
        due("search", 99, r.search(0, 100, 0, 99));
        due("lost", 0, r.told(1));
        due("more", 100, r.more(50));
        due("more", 100, r.more(1));
        due("waiting", true, r.told(0) > 0);
        due("no path 100", NONE, r.path(100, 0));
        due("path 99", 4, r.path(99, 0));
        due("agrees", true, r.agrees());
    }

    private static void path() {
        CHECK.in("promise 8");
        PathRunner r = crossing();
        r.search(0, 99, 0, 99);
        due("what -1", BAD, r.path(0, -1));
        due("what 7", BAD, r.path(0, 7));
        due("BAD ahead of NONE", BAD, r.path(9, 7));
        due("path -1", NONE, r.path(-1, 0));
        due("path 4", NONE, r.path(4, 0));
        due("path HIGH", NONE, r.path(HIGH, 6));
        pathIs(r, 0, 1, 13, 0, 8, 2, 16 * 21, 1);
        pathIs(r, 1, 1, 13, 0, 9, 2, 16 * 11, 1);
        pathIs(r, 2, 1, 13, 0, 11, 3, 16 * 16, 1);
        pathIs(r, 3, 1, 7, 0, 8, 2, 16 * 16, 1);
    }

    private static void outcomes() {
        CHECK.in("promise 8, outcomes");
        PathRunner r = with(NOTHING, 0, RETURN, 0);
        r.search(0, 9, 0, 9);
        pathIs(r, 0, 2, 1, 0, 2, 0, 1024, 0);
        due("token of a reference", NONE, r.token(0, 0));
        due("value of a reference", NONE, r.value(0, 0, 0));
        r = with(THROW, 9);
        r.search(0, 9, 0, 9);
        pathIs(r, 0, 3, 0, 9, 1, 0, 1024, 0);
        r = with(GOTO, 0);
        r.search(0, 200, 0, 9);
        pathIs(r, 0, 4, 0, 0, 200, 0, 1024, 0);
        r = with(GOTO, 39);
        r.search(0, 200, 0, 9);
        pathIs(r, 0, 5, 39, 0, 1, 0, 1024, 0);
        r.search(0, 1, 0, 9);
        pathIs(r, 0, 4, 39, 0, 1, 0, 1024, 0);
        r = with(NATIVE, 3);
        r.search(0, 200, 0, 9);
        pathIs(r, 0, 6, 0, 0, 1, 0, 1024, 0);
        r = with();
        r.search(0, 200, 0, 9);
        pathIs(r, 0, 5, 0, 0, 0, 0, 1024, 0);
        due("nothing was come to", 0, r.told(3));
        r = with(LOAD, 0);
        r.search(0, 200, 0, 9);
        pathIs(r, 0, 5, 1, 0, 1, 0, 1024, 0);
        r.search(0, 1, 0, 9);
        pathIs(r, 0, 4, 1, 0, 1, 0, 1024, 0);
        r = with(LOAD, 0, RETURN, 0);
        r.search(0, 2, 0, 9);
        pathIs(r, 0, 1, 1, 0, 2, 0, 1024, 1);
    }

    private static void condition() {
        CHECK.in("promise 9");
        PathRunner r = crossing();
        r.search(0, 99, 0, 99);
        due("what -1", BAD, r.condition(0, 0, -1));
        due("what 2", BAD, r.condition(9, 9, 2));
        due("no path", NONE, r.condition(4, 0, 0));
        due("no path", NONE, r.condition(-1, 0, 0));
        due("no condition", NONE, r.condition(0, 2, 1));
        due("no condition", NONE, r.condition(0, -1, 1));
        due("no condition", NONE, r.condition(0, HIGH, 1));
        conditionsAre(r, 2, 2, 1, 5, 0, 10, 0);

        PathRunner inner = with(LOAD, 0, CALL, 1, RETURN, 0);
        inner.method(1);
        code(inner, 1, LOAD, 0, PUSH, 3, SAME, 4, PUSH, 0, NOTHING, 0, RETURN, 0);
        inner.search(0, 99, 1, 9);
        conditionsAre(inner, 0, 102, 0);
        conditionsAre(inner, 1, 102, 1);
    }

    private static void token() {
        CHECK.in("promise 10");
        PathRunner r = with(LOAD, 0, PUSH, 3, PUSH, 4, MUL, 0, SUB, 0, LOAD, 1, NEG, 0, NATIVE, 0,
                XOR, 0, RETURN, 0);
        r.search(0, 99, 0, 9);
        tokensAre(r, 0, 1, 1012, 7, 2, 11, 29, 14);
        due("no path", NONE, r.token(1, 0));
        due("no path", NONE, r.token(-1, 0));
        PathRunner plainNumber = with(PUSH, -128, NEG, 0, RETURN, 0);
        plainNumber.search(0, 99, 0, 9);
        tokensAre(plainNumber, 0, 872);
        PathRunner same = with(LOAD, 0, LOAD, 0, SUB, 0, PUSH, 0, MUL, 0, RETURN, 0);
        same.search(0, 99, 0, 9);
        tokensAre(same, 0, 1, 1, 7, 1000, 8);
        int[] ops = {ADD, SUB, MUL, AND, OR, XOR, SHL, SHR};
        for (int op : ops) {
            PathRunner one = with(LOAD, 1, LOAD, 0, op, 0, RETURN, 0);
            one.search(0, 99, 0, 9);
            tokensAre(one, 0, 2, 1, op);
        }
        PathRunner element = with(PUSH, 2, NEW, 0, DUP, 0, PUSH, 1, LOAD, 0, NEG, 0, SET, 0, DUP, 0,
                STORE, 5, LOAD, 0, GET, 0, RETURN, 0);
        element.search(0, 99, 1, 9);
        tokensAre(element, 0, 1000);
        tokensAre(element, 1, 1, 11);
        due("thrown", NONE, element.token(2, 0));
        due("thrown", 2, element.path(2, 2));
    }

    private static void value() {
        CHECK.in("promise 11");
        PathRunner r = with(LOAD, 0, LOAD, 1, DIV, 0, PUSH, 100, ADD, 0, RETURN, 0);
        due("search", 2, r.search(0, 99, 0, 9));
        due("ordinary", 103, r.value(0, 15, 4));
        due("cut toward 0", 97, r.value(0, -15, 4));
        due("by 0", FULL, r.value(0, 3, 0));
        due("x -17", BAD, r.value(0, -17, 0));
        due("x 16", BAD, r.value(0, 16, 0));
        due("y -17", BAD, r.value(9, 0, -17));
        due("y 16", BAD, r.value(0, 0, 16));
        due("thrown", NONE, r.value(1, 0, 0));
        due("no path", NONE, r.value(2, 0, 0));
        due("no path", NONE, r.value(-1, 0, 0));
        PathRunner off = with(LOAD, 0, PUSH, 0, LESS, 4, NATIVE, 1, LOAD, 0, LOAD, 0, MUL, 0,
                RETURN, 0);
        off.search(0, 99, 0, 9);
        due("an input that does not go along it", -31, off.value(0, 15, 0));
        due("stopped", NONE, off.value(1, 15, 0));
        PathRunner rest = with(LOAD, 0, LOAD, 1, REM, 0, RETURN, 0);
        rest.search(0, 99, 0, 9);
        due("rest", -3, rest.value(0, -15, 4));
        due("rest by 0", FULL, rest.value(0, -15, 0));
    }

    private static void along() {
        CHECK.in("promise 12");
        PathRunner r = crossing();
        r.search(0, 99, 0, 3);
        due("path 0", 0, r.along(-16, -16));
        due("path 0", 0, r.along(-1, 4));
        due("path 1", 1, r.along(-1, 5));
        due("path 2", 2, r.along(0, -1));
        due("none that ended", NONE, r.along(15, 15));
        due("x", BAD, r.along(16, 0));
        due("x", BAD, r.along(-17, 0));
        due("y", BAD, r.along(0, 16));
        due("y", BAD, r.along(0, -17));
        r.more(1);
        due("path 3", 3, r.along(15, 15));
    }

    private static void input() {
        CHECK.in("promise 13");
        PathRunner r = crossing();
        r.search(0, 99, 0, 99);
        due("first", 0, r.input(0, 0));
        due("21st", 20, r.input(0, 20));
        due("of the next x", 32, r.input(0, 21));
        due("last", 15 * 32 + 20, r.input(0, 16 * 21 - 1));
        due("behind the last", NONE, r.input(0, 16 * 21));
        due("-1", NONE, r.input(0, -1));
        due("HIGH", NONE, r.input(0, HIGH));
        due("first of path 3", 16 * 32 + 16, r.input(3, 0));
        due("last of path 3", 1023, r.input(3, 255));
        due("no path", NONE, r.input(4, 0));
        due("no path", NONE, r.input(-1, 0));
    }

    private static void flip() {
        CHECK.in("promise 14");
        PathRunner r = crossing();
        r.search(0, 99, 0, 99);
        due("x not below 0", 16 * 32, r.flip(0, 0));
        due("x below 0, y not below 5", 21, r.flip(0, 1));
        due("x below 0, y below 5", 0, r.flip(1, 1));
        due("x below 0", 0, r.flip(2, 0));
        due("x not below 0, y not below 0", 16 * 32 + 16, r.flip(2, 1));
        due("no such input", NONE, r.flip(2, 2));
        due("no such condition", NONE, r.flip(2, 3));
        due("no such condition", NONE, r.flip(2, -1));
        due("no path", NONE, r.flip(4, 0));
        due("no path", NONE, r.flip(-1, 0));
    }

    private static void pruned() {
        CHECK.in("promise 15");
        PathRunner r = with(LOAD, 0, PUSH, 1, AND, 0, NEW, 0, POP, 0, LOAD, 1, PUSH, 127, LESS, 0);
        r.search(0, 8, 1, 99);
        // NEW: 2 .. 7 of a length 0 or 1; then LESS twice: it jumps always
        due("told", 8, r.told(2));
        due("what -1", BAD, r.pruned(0, -1));
        due("what 2", BAD, r.pruned(99, 2));
        due("latest place", 7, r.pruned(0, 0));
        due("latest alternative", 1, r.pruned(0, 1));
        due("second place", 7, r.pruned(1, 0));
        due("third place", 3, r.pruned(2, 0));
        due("third alternative", 7, r.pruned(2, 1));
        due("last place", 3, r.pruned(7, 0));
        due("last alternative", 2, r.pruned(7, 1));
        due("no more", NONE, r.pruned(8, 0));
        due("-1", NONE, r.pruned(-1, 0));

        PathRunner many = with(LOAD, 0, PUSH, 127, LESS, 0);
        many.search(0, 150, 0, 1);
        due("told", 50, many.told(2));
        due("the 30th", 2, many.pruned(29, 0));
        due("no 31st", NONE, many.pruned(30, 0));
        many.search(0, 2, 0, 1);
        due("of this search", NONE, many.pruned(0, 0));
    }

    private static void times() {
        CHECK.in("promise 16");
        PathRunner r = crossing();
        r.method(0);
        r.search(0, 99, 0, 99);
        int[] want = {1, 1, 1, 1, 1, 1, 1, 1, 2, 2, 2, 1, 3, 3};
        for (int i = 0; i < want.length; i++) {
            due("times(0, " + i + ")", want[i], r.times(0, i));
        }
        due("no operation", BAD, r.times(0, 14));
        due("no operation", BAD, r.times(0, -1));
        due("no operation", BAD, r.times(0, 40));
        due("no operation", BAD, r.times(1, 0));
        due("no method", BAD, r.times(2, 0));
        due("no method", BAD, r.times(-1, 0));
        r.plain(0, 1, 1, 99, 0);
        r.agrees();
        due("plain runs do not count", 1, r.times(0, 0));
        due("plain runs do not count", 21, r.told(3));
        r.search(0, 1, 0, 99);
        due("of this search", 0, r.times(0, 1));
    }

    private static void plain() {
        CHECK.in("promise 17");
        PathRunner r = crossing();
        due("method", BAD, r.plain(-1, 0, 0, 9, 0));
        due("method", BAD, r.plain(1, 0, 0, 9, 0));
        due("x", BAD, r.plain(0, -129, 0, 9, 0));
        due("x", BAD, r.plain(0, 128, 0, 9, 0));
        due("y", BAD, r.plain(0, 0, -129, 9, 0));
        due("y", BAD, r.plain(0, 0, 128, 9, 0));
        due("bound", BAD, r.plain(0, 0, 0, 0, 0));
        due("bound", BAD, r.plain(0, 0, 0, 201, 0));
        due("what", BAD, r.plain(0, 0, 0, 9, -1));
        due("what", BAD, r.plain(0, 0, 0, 9, 4));
        ends("x below 0", r, -128, 127, 99, 1, 13, 127, 9);
        ends("none below 0", r, 127, 0, 99, 1, 7, 127, 8);
        ends("bound", r, 127, 0, 7, 4, 7, 0, 7);
        ends("bound just enough", r, 127, 0, 8, 1, 7, 127, 8);
        due("nothing was searched", STATE, r.told(0));
        r.method(3);
        due("arguments", BAD, r.plain(1, 0, 0, 9, 0));
        ends("no operations", with(), 1, 2, 9, 5, 0, 0, 0);
        ends("reference", with(NOTHING, 0, RETURN, 0), 1, 2, 9, 2, 1, 0, 2);
        ends("stop", with(NATIVE, 1), 1, 2, 9, 6, 0, 0, 1);
        ends("a long formula is no matter", with(LOAD, 0, DUP, 0, ADD, 0, GOTO, 1), 3, 0, 200,
                4, 2, 0, 200);
    }

    private static void plainWords() {
        CHECK.in("promise 17, words");
        int[][] rows = {{ADD, 100, 100, -56}, {ADD, -128, -1, 127}, {SUB, -128, 1, 127}, {SUB, 5, 7, -2},
            {MUL, 64, 2, -128}, {MUL, -128, -128, 0}, {MUL, 15, 17, -1}, {DIV, 7, -2, -3},
            {DIV, -7, 2, -3}, {DIV, -128, -1, -128}, {REM, 7, -2, 1}, {REM, -7, 2, -1},
            {REM, -128, -1, 0}, {AND, -1, 77, 77}, {AND, 12, 10, 8}, {OR, 12, 10, 14}, {OR, -128, 1, -127},
            {XOR, 12, 10, 6}, {XOR, -1, 127, -128}, {SHL, 1, 7, -128}, {SHL, 3, 9, 6}, {SHL, 5, -8, 5},
            {SHL, 127, -1, -128}, {SHR, -128, 7, -1}, {SHR, 127, 6, 1}, {SHR, -5, 1, -3},
            {SHR, 64, 8, 64}, {SHR, 64, -7, 32}};
        for (int[] row : rows) {
            PathRunner r = with(LOAD, 0, LOAD, 1, row[0], 0, RETURN, 0);
            ends("operation " + row[0], r, row[1], row[2], 9, 1, 3, row[3], 4);
        }
        int[][] ones = {{NEG, 5, -5}, {NEG, -128, -128}, {NEG, 0, 0}, {NATIVE, -5, 5}, {NATIVE, 5, 5},
            {NATIVE, -128, -128}, {NATIVE, -127, 127}};
        for (int[] row : ones) {
            ends("operation " + row[0], with(LOAD, 0, row[0], 0, RETURN, 0), row[1], 0, 9, 1, 2, row[2], 3);
        }
        ends("SWAP", with(LOAD, 0, LOAD, 1, SWAP, 0, SUB, 0, RETURN, 0), 3, 10, 9, 1, 4, 7, 5);
        ends("DUP, POP", with(LOAD, 0, DUP, 0, LOAD, 1, POP, 0, ADD, 0, RETURN, 0), 3, 10, 9, 1, 5, 6, 6);
        ends("STORE", with(LOAD, 0, STORE, 5, LOAD, 5, RETURN, 0), 3, 10, 9, 1, 3, 3, 4);
        ends("LESS", with(LOAD, 0, LOAD, 1, LESS, 4, THROW, 7, PUSH, 1, RETURN, 0), -3, 2, 9, 1, 5, 1, 5);
        ends("not LESS", with(LOAD, 0, LOAD, 1, LESS, 4, THROW, 7, PUSH, 1, RETURN, 0), 2, 2, 9, 3, 3, 7, 4);
        ends("SAME", with(LOAD, 0, LOAD, 1, SAME, 4, THROW, 7, PUSH, 1, RETURN, 0), 2, 2, 9, 1, 5, 1, 5);
        ends("not SAME", with(LOAD, 0, LOAD, 1, SAME, 4, THROW, 7, PUSH, 1, RETURN, 0), 2, 3, 9, 3, 3, 7, 4);
        ends("NULL", with(NOTHING, 0, NULL, 3, THROW, 7, PUSH, 1, RETURN, 0), 0, 0, 9, 1, 4, 1, 4);
        ends("not NULL", with(PUSH, 0, NEW, 0, NULL, 4, THROW, 7, PUSH, 1, RETURN, 0), 0, 0, 9, 3, 3, 7, 4);
        PathRunner shared = with(PUSH, 3, NEW, 0, DUP, 0, DUP, 0, PUSH, 2, LOAD, 0, SET, 0, PUSH, 2,
                GET, 0, SWAP, 0, LENGTH, 0, ADD, 0, RETURN, 0);
        ends("SET, GET, LENGTH", shared, 40, 0, 20, 1, 12, 43, 13);
    }

    private static void plainThrows() {
        CHECK.in("promise 17, throws");
        ends("DIV", with(LOAD, 0, LOAD, 1, DIV, 0), 1, 0, 9, 3, 2, 1, 3);
        ends("REM", with(LOAD, 0, LOAD, 1, REM, 0), 1, 0, 9, 3, 2, 1, 3);
        PathRunner get = with(LOAD, 0, NEW, 0, LOAD, 1, GET, 0, RETURN, 0);
        ends("index", get, 3, 3, 9, 3, 3, 2, 4);
        ends("index", get, 3, -1, 9, 3, 3, 2, 4);
        ends("index", get, 0, 0, 9, 3, 3, 2, 4);
        ends("index", get, 5, 4, 9, 1, 4, 0, 5);
        ends("length", get, -1, 3, 9, 3, 1, 3, 2);
        ends("length", get, 6, 3, 9, 3, 1, 4, 2);
        ends("null ahead of the index", with(NOTHING, 0, PUSH, -1, GET, 0), 0, 0, 9, 3, 2, 5, 3);
        ends("null, SET", with(NOTHING, 0, PUSH, 0, PUSH, 0, SET, 0), 0, 0, 9, 3, 3, 5, 4);
        ends("null, LENGTH", with(NOTHING, 0, LENGTH, 0), 0, 0, 9, 3, 1, 5, 2);
        PathRunner five = with(LOAD, 0, NEW, 0, LOAD, 0, NEW, 0, LOAD, 0, NEW, 0, LOAD, 0, NEW, 0,
                LOAD, 1, NEW, 0);
        ends("a fifth array", five, 0, 0, 20, 3, 9, 4, 10);
        ends("a fifth array below 0", five, 0, -1, 20, 3, 9, 3, 10);
        ends("a fifth array too long", five, 0, 6, 20, 3, 9, 4, 10);
        for (int kind = 7; kind <= 12; kind++) {
            ends("THROW", with(THROW, kind), 0, 0, 9, 3, 0, kind, 1);
        }
    }

    private static void plainBroken() {
        CHECK.in("promise 17, broken");
        int[] takesOne = {STORE, POP, DUP, NEG, NULL, NEW, LENGTH, RETURN, NATIVE};
        for (int op : takesOne) {
            ends(op + " of none", with(op, 0), 1, 2, 9, 5, 0, 0, 1);
        }
        int[] takesTwo = {SWAP, ADD, SUB, MUL, DIV, REM, AND, OR, XOR, SHL, SHR, LESS, SAME, GET};
        for (int op : takesTwo) {
            ends(op + " of one", with(NOTHING, 0, op, 0), 1, 2, 9, 5, 1, 0, 2);
            ends(op + " of one", with(PUSH, 0, op, 0), 1, 2, 9, 5, 1, 0, 2);
        }
        ends("SET of two", with(PUSH, 0, PUSH, 0, SET, 0), 1, 2, 9, 5, 2, 0, 3);
        int[] words = {ADD, SUB, MUL, DIV, REM, AND, OR, XOR, SHL, SHR, LESS, SAME};
        for (int op : words) {
            ends(op + " of a reference", with(NOTHING, 0, PUSH, 0, op, 0), 1, 2, 9, 5, 2, 0, 3);
            ends(op + " of a reference", with(PUSH, 0, NOTHING, 0, op, 0), 1, 2, 9, 5, 2, 0, 3);
        }
        ends("NEG", with(NOTHING, 0, NEG, 0), 1, 2, 9, 5, 1, 0, 2);
        ends("NEW", with(NOTHING, 0, NEW, 0), 1, 2, 9, 5, 1, 0, 2);
        ends("NATIVE", with(NOTHING, 0, NATIVE, 0), 1, 2, 9, 5, 1, 0, 2);
        ends("NULL", with(PUSH, 0, NULL, 0), 1, 2, 9, 5, 1, 0, 2);
        ends("LENGTH", with(PUSH, 0, LENGTH, 0), 1, 2, 9, 5, 1, 0, 2);
        ends("GET", with(PUSH, 0, PUSH, 0, GET, 0), 1, 2, 9, 5, 2, 0, 3);
        ends("GET ahead of null", with(NOTHING, 0, NOTHING, 0, GET, 0), 1, 2, 9, 5, 2, 0, 3);
        ends("SET ahead of null", with(NOTHING, 0, PUSH, 0, NOTHING, 0, SET, 0), 1, 2, 9, 5, 3, 0, 4);
        ends("SET ahead of null", with(NOTHING, 0, NOTHING, 0, PUSH, 0, SET, 0), 1, 2, 9, 5, 3, 0, 4);
        ends("local", with(LOAD, 2), 1, 2, 9, 5, 0, 0, 1);
        int[][] grows = {{PUSH, 0}, {LOAD, 0}, {DUP, 0}, {NOTHING, 0}, {CALL, 1}};
        for (int[] op : grows) {
            PathRunner r = with();
            r.method(0);
            code(r, 1, THROW, 7);
            for (int i = 0; i < 12; i++) {
                code(r, 0, LOAD, 0);
            }
            code(r, 0, op[0], op[1]);
            r.handler(0, 0, 40, 39, 0);
            ends(op[0] + ": a 13th value", r, 1, 2, 20, 5, 12, 0, 13);
        }
        ends("STOP takes nothing", with(NATIVE, 3), 1, 2, 9, 6, 0, 0, 1);
        ends("no call", with(CALL, 5), 1, 2, 9, 5, 0, 0, 1);
        PathRunner empty = with(CALL, 1);
        empty.method(0);
        ends("a method without operations", empty, 1, 2, 9, 5, 0, 0, 1);
        PathRunner few = with(PUSH, 1, CALL, 1);
        few.method(2);
        code(few, 1, PUSH, 1, RETURN, 0);
        ends("too few arguments", few, 1, 2, 9, 5, 1, 0, 2);
        ends("a target behind the last", with(PUSH, 0, PUSH, 1, LESS, 20), 1, 2, 9, 5, 20, 0, 3);
    }

    private static void plainHandlers() {
        CHECK.in("promise 17, handlers");
        // 0 PUSH 1, 1 LOAD x, 2 LOAD y, 3 DIV, 4 RETURN, 5 RETURN the kind, 6 ADD
        int[] pairs = {PUSH, 1, LOAD, 0, LOAD, 1, DIV, 0, RETURN, 0, RETURN, 0, ADD, 0};
        int[][] misses = {{0, 3, 5, 0}, {4, 40, 5, 0}, {3, 4, 5, 2}};
        for (int[] miss : misses) {
            PathRunner r = with(pairs);
            r.handler(0, miss[0], miss[1], miss[2], miss[3]);
            ends("not handled", r, 1, 0, 20, 3, 3, 1, 4);
        }
        int[][] hits = {{3, 4, 5, 0}, {3, 4, 5, 1}, {0, 40, 5, 0}};
        for (int[] hit : hits) {
            PathRunner r = with(pairs);
            r.handler(0, hit[0], hit[1], hit[2], hit[3]);
            ends("handled", r, 1, 0, 20, 1, 5, 1, 5);
        }
        PathRunner empty = with(pairs);
        empty.handler(0, 3, 4, 6, 0);
        ends("the stack has but the kind", empty, 1, 0, 20, 5, 6, 0, 5);
        PathRunner first = with(pairs);
        first.handler(0, 3, 4, 6, 2);
        first.handler(0, 3, 4, 5, 0);
        first.handler(0, 3, 4, 6, 1);
        ends("the first that fits", first, 1, 0, 20, 1, 5, 1, 5);
        ends("bound at the target", first, 1, 0, 4, 4, 5, 0, 4);
        PathRunner locals = with(LOAD, 0, STORE, 1, THROW, 12, LOAD, 1, ADD, 0, RETURN, 0);
        locals.handler(0, 2, 3, 3, 12);
        ends("locals stay", locals, 5, 0, 20, 1, 5, 17, 6);
    }

    private static void plainCalls() {
        CHECK.in("promise 17, calls");
        PathRunner order = with(PUSH, 50, LOAD, 0, LOAD, 1, CALL, 1, ADD, 0, RETURN, 0);
        order.method(2);
        code(order, 1, PUSH, 99, LOAD, 0, LOAD, 1, SUB, 0, RETURN, 0);
        ends("the last argument from the top", order, 9, 2, 20, 1, 5, 57, 11);
        PathRunner nothing = with(LOAD, 0, STORE, 2, LOAD, 0, CALL, 1, RETURN, 0);
        nothing.method(1);
        code(nothing, 1, LOAD, 1);
        ends("locals of a call are nothing", nothing, 1, 2, 20, 5, 100, 0, 5);
        PathRunner array = with(PUSH, 2, NEW, 0, STORE, 4, LOAD, 4, CALL, 1, POP, 0, LOAD, 4, PUSH, 1,
                GET, 0, RETURN, 0);
        array.method(1);
        code(array, 1, LOAD, 0, PUSH, 1, PUSH, 33, SET, 0, NOTHING, 0, RETURN, 0);
        ends("arrays are shared", array, 1, 2, 30, 1, 9, 33, 16);
        PathRunner left = with(CALL, 1, RETURN, 0);
        left.method(0);
        code(left, 1, PUSH, 1, RETURN, 0);
        ends("bound behind a RETURN", left, 1, 2, 3, 4, 1, 0, 3);
        ends("bound in a call", left, 1, 2, 2, 4, 101, 0, 2);

        PathRunner deep = with(CALL, 1, RETURN, 0);
        deep.method(0);
        code(deep, 1, CALL, 1, RETURN, 0, RETURN, 0);
        ends("too deep", deep, 1, 2, 30, 3, 100, 6, 4);
        deep.handler(0, 0, 1, 1, 6);
        ends("handled at the CALL", deep, 1, 2, 30, 1, 1, 6, 5);
        deep.handler(1, 0, 1, 2, 6);
        ends("handled where it was thrown", deep, 1, 2, 30, 1, 1, 6, 8);
        PathRunner thrown = with(LOAD, 0, CALL, 1, RETURN, 0);
        thrown.method(1);
        code(thrown, 1, LOAD, 0, PUSH, 0, REM, 0);
        ends("the place is that of what threw", thrown, 1, 2, 30, 3, 102, 1, 5);
        thrown.handler(0, 0, 1, 2, 0);
        thrown.handler(0, 2, 3, 2, 0);
        ends("the CALL is not in it", thrown, 1, 2, 30, 3, 102, 1, 5);
        PathRunner none = with(CALL, 1);
        none.method(0);
        code(none, 1, PUSH, 1, POP, 0);
        ends("behind the last one of a call", none, 1, 2, 30, 5, 102, 0, 3);
    }

    private static void splits() {
        CHECK.in("splits");
        PathRunner length = with(LOAD, 0, NEW, 0, LENGTH, 0, RETURN, 0);
        due("NEW", 8, length.search(0, 99, 1, 99));
        for (int k = 0; k < 8; k++) {
            conditionsAre(length, k, 1, k);
        }
        pathIs(length, 0, 1, 3, 0, 4, 1, 32, 1);
        tokensAre(length, 5, 1005);
        pathIs(length, 6, 3, 1, 3, 2, 1, 512, 0);
        pathIs(length, 7, 3, 1, 4, 2, 1, 320, 0);

        PathRunner get = with(PUSH, 2, NEW, 0, LOAD, 0, GET, 0, LOAD, 0, ADD, 0, RETURN, 0);
        due("GET", 3, get.search(0, 99, 1, 99));
        conditionsAre(get, 0, 3, 0);
        conditionsAre(get, 1, 3, 1);
        conditionsAre(get, 2, 3, 2);
        tokensAre(get, 1, 1000, 1, 6);
        pathIs(get, 2, 3, 3, 2, 4, 1, 960, 0);

        PathRunner by = with(LOAD, 0, LOAD, 1, REM, 0, RETURN, 0);
        due("REM", 2, by.search(0, 99, 1, 99));
        conditionsAre(by, 0, 2, 0);
        pathIs(by, 0, 1, 3, 0, 4, 1, 992, 3);
        pathIs(by, 1, 3, 2, 1, 3, 1, 32, 0);

        PathRunner caught = with(LOAD, 0, LOAD, 1, DIV, 0, RETURN, 0, RETURN, 0);
        caught.handler(0, 2, 3, 4, 1);
        due("handled", 2, caught.search(0, 99, 1, 99));
        pathIs(caught, 1, 1, 4, 0, 4, 1, 32, 1);
        tokensAre(caught, 1, 1001);
        due("LEFT behind a split", 2, caught.search(0, 3, 1, 99));
        pathIs(caught, 0, 4, 3, 0, 3, 1, 992, 0);
        pathIs(caught, 1, 4, 4, 0, 3, 1, 32, 0);
    }

    private static void splitEdges() {
        CHECK.in("splits, edges");
        PathRunner known = with(LOAD, 0, PUSH, 2, DIV, 0, PUSH, 3, NEW, 0, PUSH, 1, GET, 0, ADD, 0,
                RETURN, 0);
        due("numbers do not split", 1, known.search(0, 99, 1, 99));
        tokensAre(known, 0, 1, 1002, 9, 1000, 6);
        PathRunner zero = with(LOAD, 0, PUSH, 0, DIV, 0);
        due("by the number 0", 1, zero.search(0, 99, 1, 99));
        pathIs(zero, 0, 3, 2, 1, 3, 0, 1024, 0);
        PathRunner half = with(PUSH, 3, LOAD, 0, SAME, 4, THROW, 7, THROW, 8);
        due("one of the two is no number", 2, half.search(0, 99, 1, 99));
        pathIs(half, 0, 3, 4, 8, 4, 1, 32, 0);
        PathRunner itself = with(LOAD, 0, LOAD, 0, SAME, 4, THROW, 7, THROW, 8);
        due("the same formula twice", 1, itself.search(0, 99, 1, 99));
        conditionsAre(itself, 0, 2, 0);
        due("is pruned", 1, itself.told(2));
        due("flip", NONE, itself.flip(0, 0));
        PathRunner none = with(PUSH, 0, NEW, 0, LOAD, 0, GET, 0);
        due("an array of none", 1, none.search(0, 99, 1, 99));
        conditionsAre(none, 0, 3, 0);
        pathIs(none, 0, 3, 3, 2, 4, 1, 1024, 0);
        PathRunner nowhere = with(NOTHING, 0, LOAD, 0, GET, 0);
        due("null does not split", 1, nowhere.search(0, 99, 1, 99));
        pathIs(nowhere, 0, 3, 2, 5, 3, 0, 1024, 0);
        PathRunner fifth = with(PUSH, 0, NEW, 0, PUSH, 0, NEW, 0, PUSH, 0, NEW, 0, PUSH, 0, NEW, 0,
                LOAD, 0, NEW, 0);
        due("a fifth array splits", 8, fifth.search(0, 99, 1, 99));
        for (int k = 0; k < 8; k++) {
            conditionsAre(fifth, k, 9, k);
            due("its kind", k == 6 ? 3 : 4, fifth.path(k, 2));
        }
        PathRunner twice = with(PUSH, 2, NEW, 0, STORE, 4, LOAD, 4, LOAD, 0, PUSH, 9, SET, 0,
                LOAD, 4, LOAD, 0, GET, 0, RETURN, 0);
        due("an index that is known splits again", 3, twice.search(0, 99, 0, 99));
        conditionsAre(twice, 0, 6, 0, 9, 0);
        conditionsAre(twice, 1, 6, 1, 9, 1);
        conditionsAre(twice, 2, 6, 2);
        tokensAre(twice, 0, 1009);
        due("what it can not be is pruned", 4, twice.told(2));
    }

    private static void big() {
        CHECK.in("big formulas");
        // 31 tokens, and 28 more one by one: 59; then 60; then 61
        PathRunner r = with(LOAD, 0, DUP, 0, ADD, 0, DUP, 0, ADD, 0, DUP, 0, ADD, 0, DUP, 0, ADD, 0);
        for (int i = 0; i < 29; i++) {
            code(r, 0, NEG, 0);
        }
        code(r, 0, RETURN, 0);
        due("60 tokens", 1, r.search(0, 99, 0, 9));
        pathIs(r, 0, 1, 38, 0, 39, 0, 1024, 60);
        due("its value", 48, r.value(0, -3, 0));
        due("agrees", true, r.agrees());
        PathRunner over = with(LOAD, 0, DUP, 0, ADD, 0, DUP, 0, ADD, 0, DUP, 0, ADD, 0, DUP, 0, ADD, 0);
        for (int i = 0; i < 30; i++) {
            code(over, 0, NATIVE, 0);
        }
        due("61 tokens", 1, over.search(0, 99, 0, 9));
        pathIs(over, 0, 7, 38, 0, 39, 0, 1024, 0);
        due("agrees, though a plain run goes on", true, over.agrees());
        due("none in a plain run", 5, over.plain(0, 3, 0, 99, 0));
        int[] large = {LOAD, 1, DUP, 0, ADD, 0, DUP, 0, ADD, 0, DUP, 0, ADD, 0, DUP, 0, ADD, 0, DUP, 0};
        PathRunner split = with(large);
        code(split, 0, DIV, 0);
        due("a throw ahead of BIG", 2, split.search(0, 99, 1, 9));
        due("not 0", 7, split.path(0, 0));
        conditionsAre(split, 0, 10, 0);
        due("0", 3, split.path(1, 0));
        PathRunner byNumber = with(large);
        code(byNumber, 0, ADD, 0);
        byNumber.search(0, 99, 1, 9);
        due("63 tokens", 7, byNumber.path(0, 0));
        due("its place", 10, byNumber.path(0, 1));
    }

    private static void agrees() {
        CHECK.in("promise 18");
        PathRunner r = crossing();
        for (int order = 0; order < 4; order++) {
            for (int bound = 1; bound < 15; bound++) {
                r.search(0, bound, order, 2);
                due("agrees", true, r.agrees());
                r.more(9);
                due("agrees", true, r.agrees());
            }
        }
        r.operation(0, ADD, 0);
        due("STATE", false, r.agrees());
    }
}
