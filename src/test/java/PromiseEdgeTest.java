/**
 * Promises 1 to 18: for each sentence that names a boundary, a test of its own: what is taken last
 * and refused first, what is empty, what is full, and what a refused call leaves as it was. The
 * number of the promise stands in the name of the test; the answers were worked out by hand.
 */
public final class PromiseEdgeTest extends Cases {
    public static void main(String[] args) throws IllegalAccessException {
        runAll(PromiseEdgeTest.class);
    }

    private static void searchedOnce(PathRunner r, boolean kept) {
        due("what was searched is " + (kept ? "kept" : "forgotten"), kept ? 1 : STATE, r.told(4));
    }

    /** x and y are split bit by bit, from the lowest one on: 1024 ways, and more than 100 paths. */
    private static PathRunner bits() {
        return with(LOAD, 0, PUSH, 1, AND, 0, PUSH, 0, SAME, 5, LOAD, 1, PUSH, 1, AND, 0, PUSH, 0,
                SAME, 10, LOAD, 0, PUSH, 1, SHR, 0, STORE, 0, LOAD, 1, PUSH, 1, SHR, 0, STORE, 1, GOTO, 0);
    }

    // ---- promise 1

    static void p01NoMethods() {
        says("1: No methods");
        PathRunner r = new PathRunner(5);
        due("operation", BAD, r.operation(0, PUSH, 0));
        due("handler", BAD, r.handler(0, 0, 1, 0, 0));
        due("search", BAD, r.search(0, 9, 0, 9));
        due("plain", BAD, r.plain(0, 0, 0, 9, 0));
        due("the first method", 0, r.method(2));
    }

    static void p01NothingSearched() {
        says("1: No methods (and nothing searched)");
        PathRunner r = new PathRunner(5);
        due("told", STATE, r.told(0));
        due("more", STATE, r.more(1));
        due("along", STATE, r.along(0, 0));
        due("agrees", false, r.agrees());
    }

    static void p01Seed() {
        says("1: the SEED (any number, each object its own)");
        int[] seeds = {LOW, -1, 0, 1, HIGH};
        // The place of the first of eight: the second z >>> 8, % 8, worked out apart.
        int[] first = {1, 4, 1, 5, 4};
        for (int i = 0; i < seeds.length; i++) {
            PathRunner r = new PathRunner(seeds[i]);
            r.method(2);
            code(r, 0, LOAD, 0, NEW, 0, RETURN, 0);
            r.search(0, 9, 2, 1);
            due("seed " + seeds[i], first[i], r.condition(0, 0, 1));
        }
    }

    // ---- promise 2

    static void p02Arguments() {
        says("2: A method with 0 .. 3 arguments: its number. BAD");
        PathRunner r = new PathRunner(0);
        due("-1", BAD, r.method(-1));
        due("0", 0, r.method(0));
        due("4", BAD, r.method(4));
        due("3, and BAD made none", 1, r.method(3));
        due("LOW", BAD, r.method(LOW));
        due("HIGH", BAD, r.method(HIGH));
        due("2, and BAD made none", 2, r.method(2));
    }

    static void p02Full() {
        says("2: FULL");
        PathRunner r = new PathRunner(0);
        for (int i = 0; i < 6; i++) {
            due("method", i, r.method(2));
        }
        due("a seventh", FULL, r.method(0));
        due("again", FULL, r.method(2));
        due("BAD is told first", BAD, r.method(4));
        for (int i = 0; i < 6; i++) {
            due("those there have their arguments", 1, r.search(i, 9, 0, 9));
        }
    }

    static void p02KeepsWhatWasSearched() {
        says("2: A method (what was searched is not forgotten)");
        PathRunner r = with(LOAD, 0, RETURN, 0);
        r.search(0, 9, 0, 9);
        r.method(1);
        searchedOnce(r, true);
        r.method(4);
        searchedOnce(r, true);
    }

    // ---- promise 3

    static void p03Method() {
        says("3: BAD (method");
        PathRunner r = new PathRunner(0);
        r.method(2);
        r.method(2);
        due("-1", BAD, r.operation(-1, POP, 0));
        due("0", 1, r.operation(0, POP, 0));
        due("1", 1, r.operation(1, POP, 0));
        due("2", BAD, r.operation(2, POP, 0));
        due("LOW", BAD, r.operation(LOW, POP, 0));
        due("HIGH", BAD, r.operation(HIGH, POP, 0));
    }

    static void p03Operation() {
        says("3: no operation 0 .. 29");
        PathRunner r = with();
        due("-1", BAD, r.operation(0, -1, 0));
        due("0", 1, r.operation(0, 0, 0));
        due("29", 2, r.operation(0, 29, 0));
        due("30", BAD, r.operation(0, 30, 0));
        due("LOW", BAD, r.operation(0, LOW, 0));
        due("HIGH", BAD, r.operation(0, HIGH, 0));
        due("BAD added none", 3, r.operation(0, 28, 0));
    }

    private static void numbersOf(int op, int least, int greatest) {
        PathRunner r = with();
        due("below the least", BAD, r.operation(0, op, least - 1));
        due("the least", 1, r.operation(0, op, least));
        due("the greatest", 2, r.operation(0, op, greatest));
        due("above the greatest", BAD, r.operation(0, op, greatest + 1));
        due("LOW", BAD, r.operation(0, op, LOW));
        due("HIGH", BAD, r.operation(0, op, HIGH));
        due("BAD added none", 3, r.operation(0, POP, 0));
    }

    static void p03NumberOfPush() {
        says("3: A: 0 a word");
        numbersOf(PUSH, -128, 127);
        ends("the least", with(PUSH, -128, RETURN, 0), 0, 0, 9, 1, 1, -128, 2);
        ends("the greatest", with(PUSH, 127, RETURN, 0), 0, 0, 9, 1, 1, 127, 2);
    }

    static void p03NumberOfLoad() {
        says("3: A: 1, 2 a local (LOAD)");
        numbersOf(LOAD, 0, 5);
    }

    static void p03NumberOfStore() {
        says("3: A: 1, 2 a local (STORE)");
        numbersOf(STORE, 0, 5);
    }

    static void p03NumberOfGoto() {
        says("3: A: 17 to 20 0 .. 39 (GOTO)");
        numbersOf(GOTO, 0, 39);
    }

    static void p03NumberOfLess() {
        says("3: A: 17 to 20 0 .. 39 (LESS)");
        numbersOf(LESS, 0, 39);
    }

    static void p03NumberOfSame() {
        says("3: A: 17 to 20 0 .. 39 (SAME)");
        numbersOf(SAME, 0, 39);
    }

    static void p03NumberOfNull() {
        says("3: A: 17 to 20 0 .. 39 (NULL)");
        numbersOf(NULL, 0, 39);
    }

    static void p03NumberOfCall() {
        says("3: A: 25 0 .. 5 (be there such a method or not)");
        numbersOf(CALL, 0, 5);
    }

    static void p03NumberOfThrow() {
        says("3: A: 27 7 .. 12");
        numbersOf(THROW, 7, 12);
    }

    static void p03NumberOfNative() {
        says("3: A: 29 0 .. 3");
        numbersOf(NATIVE, 0, 3);
    }

    static void p03NumberOfOthers() {
        says("3: of others it is not looked at");
        int[] others = {POP, DUP, SWAP, ADD, SUB, MUL, DIV, REM, NEG, AND, OR, XOR, SHL, SHR, NEW, GET, SET,
            LENGTH, RETURN, NOTHING};
        int[] numbers = {LOW, -1, 40, HIGH};
        for (int op : others) {
            PathRunner r = with();
            for (int i = 0; i < numbers.length; i++) {
                due(op + " with " + numbers[i], i + 1, r.operation(0, op, numbers[i]));
            }
        }
    }

    static void p03NumberOfOthersWhenDone() {
        says("3: of others it is not looked at (nor when they are done)");
        int[] numbers = {LOW, -1, 1, 3, HIGH};
        int[][] rows = {{ADD, 9}, {SUB, 5}, {MUL, 14}, {DIV, 3}, {REM, 1}, {AND, 2}, {OR, 7}, {XOR, 5}, {SHL, 28},
            {SHR, 1}, {SWAP, 7}, {POP, 7}, {DUP, 2}, {NEG, -2}, {RETURN, 2}};
        for (int a : numbers) {
            for (int[] row : rows) {
                PathRunner r = with(LOAD, 0, LOAD, 1, row[0], a, RETURN, a);
                due(row[0] + " with " + a, row[1], r.plain(0, 7, 2, 9, 2));
            }
            PathRunner array = with(PUSH, 3, NEW, a, DUP, a, LOAD, 0, LOAD, 1, SET, a, LOAD, 0, GET, a, RETURN, a);
            due("NEW, SET, GET with " + a, 11, array.plain(0, 1, 11, 9, 2));
            PathRunner length = with(PUSH, 3, NEW, a, LENGTH, a, RETURN, a);
            due("LENGTH with " + a, 3, length.plain(0, 1, 11, 9, 2));
            due("NOTHING with " + a, 2, with(NOTHING, a, RETURN, a).plain(0, 0, 0, 9, 0));
        }
    }

    static void p03Full() {
        says("3: FULL");
        PathRunner r = with(LOAD, 0, RETURN, 0);
        for (int i = 3; i <= 40; i++) {
            due("operation", i, r.operation(0, POP, 0));
        }
        due("a 41st", FULL, r.operation(0, POP, 0));
        due("again", FULL, r.operation(0, RETURN, 0));
        due("BAD is told first: operation", BAD, r.operation(0, 30, 0));
        due("BAD is told first: number", BAD, r.operation(0, PUSH, 128));
        ends("those there are as they were", r, 5, 0, 9, 1, 1, 5, 2);
    }

    static void p03Forgets() {
        says("3: What was searched is forgotten.");
        PathRunner r = with(LOAD, 0, RETURN, 0);
        r.method(0);
        r.search(0, 9, 0, 9);
        searchedOnce(r, true);
        r.operation(1, POP, 0);
        searchedOnce(r, false);
        due("more", STATE, r.more(1));
        due("path", STATE, r.path(0, 0));
        due("condition", STATE, r.condition(0, 0, 0));
        due("token", STATE, r.token(0, 0));
        due("value", STATE, r.value(0, 0, 0));
        due("along", STATE, r.along(0, 0));
        due("input", STATE, r.input(0, 0));
        due("flip", STATE, r.flip(0, 0));
        due("pruned", STATE, r.pruned(0, 0));
        due("times", STATE, r.times(0, 0));
        due("agrees", false, r.agrees());
        r.search(0, 9, 0, 9);
        searchedOnce(r, true);
    }

    static void p03RefusedForgetsNothing() {
        says("3: BAD; FULL (what was searched stays)");
        PathRunner r = with(LOAD, 0, RETURN, 0);
        repeat(r, 0, 38, POP, 0);
        r.search(0, 9, 0, 9);
        due("BAD", BAD, r.operation(0, 30, 0));
        searchedOnce(r, true);
        due("BAD", BAD, r.operation(1, POP, 0));
        searchedOnce(r, true);
        due("FULL", FULL, r.operation(0, POP, 0));
        searchedOnce(r, true);
    }

    // ---- promise 4

    private static PathRunner throwing() {
        return with(THROW, 7, RETURN, 0);
    }

    static void p04Method() {
        says("4: BAD (method");
        PathRunner r = throwing();
        due("-1", BAD, r.handler(-1, 0, 1, 1, 0));
        due("1", BAD, r.handler(1, 0, 1, 1, 0));
        due("LOW", BAD, r.handler(LOW, 0, 1, 1, 0));
        due("HIGH", BAD, r.handler(HIGH, 0, 1, 1, 0));
        due("0, and BAD added none", 1, r.handler(0, 0, 1, 1, 0));
    }

    static void p04Places() {
        says("4: places 0 .. 40");
        PathRunner r = throwing();
        due("from -1", BAD, r.handler(0, -1, 1, 1, 0));
        due("from LOW", BAD, r.handler(0, LOW, 1, 1, 0));
        due("to 41", BAD, r.handler(0, 0, 41, 1, 0));
        due("to HIGH", BAD, r.handler(0, 0, HIGH, 1, 0));
        due("from 40 to 41", BAD, r.handler(0, 40, 41, 1, 0));
        due("from 0 to 1", 1, r.handler(0, 0, 1, 1, 8));
        due("from 39 to 40", 2, r.handler(0, 39, 40, 1, 8));
        due("from 0 to 40", 3, r.handler(0, 0, 40, 1, 8));
    }

    static void p04FromBelowTo() {
        says("4: FROM below TO");
        PathRunner r = throwing();
        due("the same", BAD, r.handler(0, 5, 5, 1, 0));
        due("one above", BAD, r.handler(0, 6, 5, 1, 0));
        due("0 and 0", BAD, r.handler(0, 0, 0, 1, 0));
        due("40 and 40", BAD, r.handler(0, 40, 40, 1, 0));
        due("40 and 0", BAD, r.handler(0, 40, 0, 1, 0));
        due("one below", 1, r.handler(0, 5, 6, 1, 0));
    }

    static void p04Target() {
        says("4: TARGET 0 .. 39");
        PathRunner r = throwing();
        due("-1", BAD, r.handler(0, 0, 1, -1, 0));
        due("0", 1, r.handler(0, 5, 6, 0, 0));
        due("39", 2, r.handler(0, 5, 6, 39, 0));
        due("40", BAD, r.handler(0, 0, 1, 40, 0));
        due("HIGH", BAD, r.handler(0, 0, 1, HIGH, 0));
        due("BAD added none", 3, r.handler(0, 5, 6, 0, 0));
    }

    static void p04Kind() {
        says("4: kind 0 .. 12");
        PathRunner r = throwing();
        due("-1", BAD, r.handler(0, 0, 1, 1, -1));
        due("0", 1, r.handler(0, 5, 6, 1, 0));
        due("12", 2, r.handler(0, 5, 6, 1, 12));
        due("13", BAD, r.handler(0, 0, 1, 1, 13));
        due("LOW", BAD, r.handler(0, 0, 1, 1, LOW));
        due("BAD added none", 3, r.handler(0, 5, 6, 1, 6));
    }

    static void p04BadHandlesNothing() {
        says("4: BAD (a refused one handles nothing)");
        PathRunner r = throwing();
        r.handler(0, 0, 41, 1, 0);
        r.handler(0, -1, 1, 1, 0);
        r.handler(0, 0, 1, 1, 13);
        ends("thrown", r, 0, 0, 9, 3, 0, 7, 1);
    }

    static void p04BehindThoseOfAMethod() {
        says("4: A HANDLER comes behind those of a method: how many.");
        PathRunner r = throwing();
        r.method(0);
        due("the first", 1, r.handler(0, 0, 1, 1, 0));
        due("the first of another", 1, r.handler(1, 0, 1, 1, 0));
        due("the second", 2, r.handler(0, 0, 1, 0, 0));
        ends("the first is looked at first", r, 0, 0, 9, 1, 1, 7, 2);
    }

    static void p04Full() {
        says("4: FULL");
        PathRunner r = throwing();
        for (int i = 1; i <= 4; i++) {
            due("handler", i, r.handler(0, 0, 1, 1, 8));
        }
        due("a fifth", FULL, r.handler(0, 0, 1, 1, 7));
        due("again", FULL, r.handler(0, 0, 1, 1, 0));
        due("BAD is told first", BAD, r.handler(0, 1, 1, 1, 0));
        ends("a fifth handles nothing", r, 0, 0, 9, 3, 0, 7, 1);
    }

    static void p04Forgets() {
        says("4: What was searched is forgotten.");
        PathRunner r = throwing();
        r.search(0, 9, 0, 9);
        searchedOnce(r, true);
        r.handler(0, 0, 1, 1, 0);
        searchedOnce(r, false);
        due("more", STATE, r.more(1));
        due("agrees", false, r.agrees());
    }

    static void p04RefusedForgetsNothing() {
        says("4: BAD; FULL (what was searched stays)");
        PathRunner r = throwing();
        for (int i = 0; i < 4; i++) {
            r.handler(0, 0, 1, 1, 8);
        }
        r.search(0, 9, 0, 9);
        due("BAD", BAD, r.handler(0, 0, 0, 0, 0));
        searchedOnce(r, true);
        due("FULL", FULL, r.handler(0, 0, 1, 1, 0));
        searchedOnce(r, true);
    }

    // ---- promise 5

    static void p05Method() {
        says("5: A SEARCH of a method with two arguments");
        PathRunner r = new PathRunner(0);
        for (int n = 0; n <= 3; n++) {
            r.method(n);
        }
        due("-1", BAD, r.search(-1, 9, 0, 9));
        due("no arguments", BAD, r.search(0, 9, 0, 9));
        due("one", BAD, r.search(1, 9, 0, 9));
        due("two", 1, r.search(2, 9, 0, 9));
        due("three", BAD, r.search(3, 9, 0, 9));
        due("no such method", BAD, r.search(4, 9, 0, 9));
        due("LOW", BAD, r.search(LOW, 9, 0, 9));
        due("HIGH", BAD, r.search(HIGH, 9, 0, 9));
    }

    static void p05Bound() {
        says("5: with a BOUND (1 .. 200)");
        PathRunner r = with(GOTO, 0);
        due("0", BAD, r.search(0, 0, 0, 9));
        due("LOW", BAD, r.search(0, LOW, 0, 9));
        due("1", 1, r.search(0, 1, 0, 9));
        pathIs(r, 0, 4, 0, 0, 1);
        due("200", 1, r.search(0, 200, 0, 9));
        pathIs(r, 0, 4, 0, 0, 200);
        due("201", BAD, r.search(0, 201, 0, 9));
        due("HIGH", BAD, r.search(0, HIGH, 0, 9));
    }

    static void p05Order() {
        says("5: and an ORDER");
        PathRunner r = with(LOAD, 0, RETURN, 0);
        due("-1", BAD, r.search(0, 9, -1, 9));
        for (int order = 0; order <= 3; order++) {
            due("order " + order, 1, r.search(0, 9, order, 9));
        }
        due("4", BAD, r.search(0, 9, 4, 9));
        due("LOW", BAD, r.search(0, 9, LOW, 9));
        due("HIGH", BAD, r.search(0, 9, HIGH, 9));
    }

    static void p05Many() {
        says("5: till so many PATHS (1 .. 100, at most) have ended");
        PathRunner r = bits();
        due("0", BAD, r.search(0, 100, 0, 0));
        due("LOW", BAD, r.search(0, 100, 0, LOW));
        due("1", 1, r.search(0, 100, 0, 1));
        due("the others wait", true, r.told(0) > 0);
        due("99", 99, r.search(0, 100, 0, 99));
        due("100", 100, r.search(0, 100, 0, 100));
        due("the last", 4, r.path(99, 0));
        due("101", BAD, r.search(0, 100, 0, 101));
        due("HIGH", BAD, r.search(0, 100, 0, HIGH));
    }

    static void p05FewerThanMany() {
        says("5: how many there are (fewer, when none waits)");
        PathRunner r = crossing();
        due("4 of 3", 3, r.search(0, 99, 0, 3));
        due("wait", 1, r.told(0));
        due("4 of 4", 4, r.search(0, 99, 0, 4));
        due("wait", 0, r.told(0));
        due("4 of 5", 4, r.search(0, 99, 0, 5));
        due("wait", 0, r.told(0));
    }

    static void p05RefusedLeavesAll() {
        says("5: BAD (what was searched stays as it was)");
        PathRunner r = crossing();
        r.search(0, 99, 0, 2);
        due("BAD", BAD, r.search(0, 0, 1, 9));
        due("BAD", BAD, r.search(1, 9, 1, 9));
        due("BAD", BAD, r.search(0, 9, 4, 9));
        due("BAD", BAD, r.search(0, 9, 1, 0));
        due("paths", 2, r.told(4));
        due("wait", 1, r.told(0));
        due("come to", 11, r.told(3));
        due("more goes on with it", 4, r.more(9));
        conditionsAre(r, 3, 2, 1, 5, 1);
        PathRunner none = with(LOAD, 0, RETURN, 0);
        due("BAD", BAD, none.search(0, 0, 0, 9));
        due("nothing was searched", STATE, none.told(0));
    }

    static void p05BeginsAnew() {
        says("5: A SEARCH (the one before it is gone)");
        PathRunner r = crossing();
        r.search(0, 99, 0, 99);
        due("pruned", 1, r.told(2));
        due("again", 1, r.search(0, 1, 0, 99));
        due("waits", 0, r.told(0));
        due("lost", 0, r.told(1));
        due("pruned", 0, r.told(2));
        due("come to", 1, r.told(3));
        due("paths", 1, r.told(4));
        due("no path 1", NONE, r.path(1, 0));
        due("none pruned", NONE, r.pruned(0, 0));
        due("times", 0, r.times(0, 1));
    }

    static void p05NothingOfTheOneBefore() {
        says("5: A SEARCH (nothing of the one before it is in its PATHS)");
        PathRunner r = with(LOAD, 0, NEW, 0, THROW, 12);
        r.method(2);
        code(r, 1, LOAD, 0, PUSH, 3, AND, 0, NEW, 0, LENGTH, 0, RETURN, 0);
        due("eight are thrown", 8, r.search(0, 99, 0, 99));
        due("the kind", 12, r.path(0, 2));
        due("four return", 4, r.search(1, 99, 0, 99));
        for (int k = 0; k < 4; k++) {
            pathIs(r, k, 1, 105, 0, 6, 1, 256, 1);
            due("the word", k, r.value(k, 0, 0));
        }
        due("agrees", true, r.agrees());
        due("eight are thrown", 8, r.search(0, 99, 0, 99));
        pathIs(r, 7, 3, 1, 4, 2, 1, 320, 0);
    }

    // ---- promise 6

    static void p06State() {
        says("6: STATE");
        PathRunner r = crossing();
        due("ahead of a search", STATE, r.more(1));
        due("ahead of BAD", STATE, r.more(0));
        r.search(0, 99, 0, 1);
        due("behind one", 2, r.more(1));
    }

    static void p06Below1() {
        says("6: BAD (below 1)");
        PathRunner r = crossing();
        r.search(0, 99, 0, 1);
        due("0", BAD, r.more(0));
        due("-1", BAD, r.more(-1));
        due("LOW", BAD, r.more(LOW));
        due("nothing went on", 1, r.told(4));
        due("nothing went on", 8, r.told(3));
        due("1", 2, r.more(1));
    }

    static void p06SoManyMore() {
        says("6: The SEARCH goes on till there are so many more PATHS");
        PathRunner r = crossing();
        r.search(0, 99, 0, 1);
        due("2 more", 3, r.more(2));
        due("wait", 1, r.told(0));
        due("2 more, of which one is there", 4, r.more(2));
        due("none waits", 4, r.more(1));
        due("come to", 21, r.told(3));
    }

    static void p06AtMost100() {
        says("6: (100 in all at most)");
        PathRunner r = bits();
        due("search", 98, r.search(0, 100, 0, 98));
        due("99", 99, r.more(1));
        due("100", 100, r.more(2));
        int comeTo = r.told(3);
        int wait = r.told(0);
        due("ways wait", true, wait > 0);
        due("no more", 100, r.more(1));
        due("no more", 100, r.more(HIGH));
        due("nothing was done", comeTo, r.told(3));
        due("they wait still", wait, r.told(0));
        due("no path 100", NONE, r.path(100, 0));
        PathRunner far = bits();
        far.search(0, 100, 0, 1);
        due("HIGH", 100, far.more(HIGH));
        PathRunner much = bits();
        much.search(0, 100, 0, 1);
        due("101", 100, much.more(101));
    }

    // ---- promise 7

    static void p07What() {
        says("7: STATE; BAD");
        PathRunner r = crossing();
        due("ahead of a search", STATE, r.told(0));
        due("ahead of BAD", STATE, r.told(-1));
        r.search(0, 99, 0, 2);
        due("-1", BAD, r.told(-1));
        due("0", 1, r.told(0));
        due("4", 2, r.told(4));
        due("5", BAD, r.told(5));
        due("LOW", BAD, r.told(LOW));
        due("HIGH", BAD, r.told(HIGH));
    }

    static void p07Empty() {
        says("7: How many (none of each)");
        PathRunner r = with();
        r.search(0, 9, 0, 9);
        int[] want = {0, 0, 0, 0, 1};
        for (int what = 0; what < 5; what++) {
            due("told(" + what + ")", want[what], r.told(what));
        }
    }

    static void p07ComeTo() {
        says("7: operations come to by all WAYS together (3; a SPLIT once)");
        PathRunner r = with(LOAD, 0, NEW, 0, RETURN, 0);
        r.search(0, 9, 1, 99);
        due("0 1, and 2 six times", 8, r.told(3));
        r.search(0, 2, 1, 99);
        due("LEFT comes to none", 2, r.told(3));
        r.search(0, 1, 1, 99);
        due("nor to the SPLIT", 1, r.told(3));
    }

    static void p07Pruned() {
        says("7: how many alternatives were PRUNED (2) (more than are kept)");
        PathRunner r = with(LOAD, 0, PUSH, 127, LESS, 0);
        r.search(0, 93, 0, 1);
        due("31", 31, r.told(2));
        due("30 are kept", NONE, r.pruned(30, 0));
    }

    // ---- promise 8

    static void p08What() {
        says("8: STATE; BAD (what)");
        PathRunner r = crossing();
        due("ahead of a search", STATE, r.path(0, 0));
        r.search(0, 99, 0, 99);
        due("-1", BAD, r.path(0, -1));
        due("0", 1, r.path(0, 0));
        due("6", 1, r.path(0, 6));
        due("7", BAD, r.path(0, 7));
        due("LOW", BAD, r.path(0, LOW));
        due("HIGH", BAD, r.path(0, HIGH));
        due("ahead of NONE", BAD, r.path(-1, 7));
    }

    static void p08NoSuchPath() {
        says("8: NONE");
        PathRunner r = crossing();
        r.search(0, 99, 0, 3);
        due("-1", NONE, r.path(-1, 0));
        due("2", 1, r.path(2, 0));
        due("3 waits", NONE, r.path(3, 0));
        due("LOW", NONE, r.path(LOW, 0));
        due("HIGH", NONE, r.path(HIGH, 0));
        r.more(1);
        due("3 has ended", 1, r.path(3, 0));
        due("4", NONE, r.path(4, 0));
    }

    static void p08KindElse0() {
        says("8: 2 the kind (of 3; else 0)");
        PathRunner r = with(THROW, 12, RETURN, 0);
        r.search(0, 9, 0, 9);
        due("thrown", 12, r.path(0, 2));
        r.handler(0, 0, 1, 1, 0);
        r.search(0, 9, 0, 9);
        due("handled", 0, r.path(0, 2));
        r.search(0, 1, 0, 9);
        due("left at the handler", 0, r.path(0, 2));
        PathRunner stopped = with(NATIVE, 3);
        stopped.search(0, 9, 0, 9);
        due("stopped", 0, stopped.path(0, 2));
        PathRunner broken = with(POP, 0);
        broken.search(0, 9, 0, 9);
        due("broken", 0, broken.path(0, 2));
    }

    static void p08TokensElse0() {
        says("8: 6 TOKENS of what it returned (of 1; else 0)");
        int[][] programs = {{LOAD, 0, RETURN, 0}, {NOTHING, 0, RETURN, 0}, {LOAD, 0, THROW, 7}, {LOAD, 0, GOTO, 0},
            {LOAD, 0}, {LOAD, 0, NATIVE, 1}};
        for (int i = 0; i < programs.length; i++) {
            PathRunner r = with(programs[i]);
            r.search(0, 11, 0, 9);
            due("outcome", i + 1, r.path(0, 0));
            due("tokens", i == 0 ? 1 : 0, r.path(0, 6));
        }
    }

    static void p08NoConditions() {
        says("8: 4 how many CONDITIONS, 5 how many inputs (none, all)");
        PathRunner r = with(LOAD, 0, RETURN, 0);
        r.search(0, 9, 0, 9);
        due("conditions", 0, r.path(0, 4));
        due("inputs", 1024, r.path(0, 5));
    }

    static void p08Done() {
        says("8: 3 how many operations were done (none, as many as the BOUND)");
        PathRunner none = with();
        none.search(0, 9, 0, 9);
        due("none", 0, none.path(0, 3));
        PathRunner all = with(GOTO, 0);
        all.search(0, 200, 0, 9);
        due("200", 200, all.path(0, 3));
    }

    // ---- promise 9

    static void p09What() {
        says("9: STATE; BAD (what)");
        PathRunner r = crossing();
        due("ahead of a search", STATE, r.condition(0, 0, 0));
        r.search(0, 99, 0, 99);
        due("-1", BAD, r.condition(1, 1, -1));
        due("0", 10, r.condition(1, 1, 0));
        due("1", 1, r.condition(1, 1, 1));
        due("2", BAD, r.condition(1, 1, 2));
        due("HIGH", BAD, r.condition(1, 1, HIGH));
        due("ahead of NONE", BAD, r.condition(9, 0, 2));
    }

    static void p09None() {
        says("9: NONE");
        PathRunner r = crossing();
        r.search(0, 99, 0, 99);
        due("path -1", NONE, r.condition(-1, 0, 0));
        due("path 4", NONE, r.condition(4, 0, 0));
        due("path HIGH", NONE, r.condition(HIGH, 0, 0));
        due("condition -1", NONE, r.condition(2, -1, 0));
        due("the first", 2, r.condition(2, 0, 0));
        due("the last", 10, r.condition(2, 2, 0));
        due("behind the last", NONE, r.condition(2, 3, 0));
        due("LOW", NONE, r.condition(2, LOW, 0));
        due("HIGH", NONE, r.condition(2, HIGH, 0));
        PathRunner without = with(LOAD, 0, RETURN, 0);
        without.search(0, 9, 0, 9);
        due("of none", NONE, without.condition(0, 0, 0));
    }

    // ---- promise 10

    static void p10None() {
        says("10: STATE; NONE");
        PathRunner r = with(LOAD, 0, LOAD, 1, DIV, 0, RETURN, 0);
        due("ahead of a search", STATE, r.token(0, 0));
        r.search(0, 9, 0, 9);
        due("-1", NONE, r.token(0, -1));
        due("the first", 1, r.token(0, 0));
        due("the last", 9, r.token(0, 2));
        due("behind the last", NONE, r.token(0, 3));
        due("LOW", NONE, r.token(0, LOW));
        due("HIGH", NONE, r.token(0, HIGH));
        due("path -1", NONE, r.token(-1, 0));
        due("a path that was thrown", NONE, r.token(1, 0));
        due("path 2", NONE, r.token(2, 0));
        due("path HIGH", NONE, r.token(HIGH, 0));
    }

    static void p10NotReturned() {
        says("10: the FORMULA that a PATH returned (NONE of all other OUTCOMES)");
        int[][] programs = {{NOTHING, 0, RETURN, 0}, {LOAD, 0, THROW, 7}, {LOAD, 0, GOTO, 0}, {LOAD, 0},
            {LOAD, 0, NATIVE, 1}, {LOAD, 0, DUP, 0, MUL, 0, GOTO, 1}};
        for (int i = 0; i < programs.length; i++) {
            PathRunner r = with(programs[i]);
            r.search(0, i == 2 ? 11 : 99, 0, 9);
            due("outcome", i + 2, r.path(0, 0));
            due("token", NONE, r.token(0, 0));
            due("value", NONE, r.value(0, 0, 0));
        }
    }

    // ---- promise 11

    static void p11Inputs() {
        says("11: STATE; BAD (x, y)");
        PathRunner r = with(LOAD, 0, PUSH, 7, MUL, 0, LOAD, 1, ADD, 0, RETURN, 0);
        due("ahead of a search", STATE, r.value(0, 0, 0));
        r.search(0, 9, 0, 9);
        due("x -17", BAD, r.value(0, -17, 0));
        due("x -16", -112, r.value(0, -16, 0));
        due("x 15", 105, r.value(0, 15, 0));
        due("x 16", BAD, r.value(0, 16, 0));
        due("y -17", BAD, r.value(0, 0, -17));
        due("y -16", -16, r.value(0, 0, -16));
        due("y 15", 15, r.value(0, 0, 15));
        due("y 16", BAD, r.value(0, 0, 16));
        due("LOW", BAD, r.value(0, LOW, 0));
        due("HIGH", BAD, r.value(0, 0, HIGH));
        due("it goes round", -128, r.value(0, -16, -16));
        due("it does not", 120, r.value(0, 15, 15));
        due("ahead of NONE", BAD, r.value(1, 16, 0));
    }

    static void p11NoSuchPath() {
        says("11: NONE: no such PATH, OUTCOME not 1");
        PathRunner r = with(LOAD, 0, LOAD, 1, DIV, 0, RETURN, 0);
        r.search(0, 9, 0, 9);
        due("path -1", NONE, r.value(-1, 1, 1));
        due("path 0", 1, r.value(0, 1, 1));
        due("thrown", NONE, r.value(1, 1, 1));
        due("path 2", NONE, r.value(2, 1, 1));
        due("path LOW", NONE, r.value(LOW, 1, 1));
        due("path HIGH", NONE, r.value(HIGH, 1, 1));
    }

    static void p11AlongOrNot() {
        says("11: whether that goes along it or not");
        PathRunner r = with(LOAD, 0, PUSH, 0, LESS, 5, LOAD, 0, RETURN, 0, LOAD, 0, NEG, 0, RETURN, 0);
        r.search(0, 9, 0, 9);
        due("goes along it", 16, r.value(0, -16, 0));
        due("does not", 0, r.value(0, 0, 0));
        due("does not", -15, r.value(0, 15, 0));
        due("does not", -16, r.value(1, -16, 0));
        due("goes along it", 15, r.value(1, 15, 0));
    }

    static void p11DividedByZero() {
        says("11: FULL: a DIV or REM in it by 0");
        int[] ops = {DIV, REM};
        for (int op : ops) {
            PathRunner r = with(LOAD, 0, LOAD, 1, op, 0, PUSH, 0, MUL, 0, RETURN, 0);
            r.search(0, 9, 0, 9);
            due("by -1", 0, r.value(0, 5, -1));
            due("by 0", FULL, r.value(0, 5, 0));
            due("0 by 0", FULL, r.value(0, 0, 0));
            due("by 1", 0, r.value(0, 5, 1));
            // The divisor comes to 0 by going round: 16 * 16.
            PathRunner round = with(LOAD, 0, LOAD, 1, PUSH, 16, MUL, 0, op, 0, RETURN, 0);
            round.search(0, 9, 0, 9);
            due("by -256", FULL, round.value(0, 5, -16));
            due("by -240", op == DIV ? 0 : 5, round.value(0, 5, -15));
        }
    }

    static void p11FirstOfTwoDivisions() {
        says("11: FULL: a DIV or REM in it by 0 (in any part of it)");
        PathRunner r = with(LOAD, 0, LOAD, 1, DIV, 0, LOAD, 1, LOAD, 0, REM, 0, SUB, 0, RETURN, 0);
        due("search", 3, r.search(0, 9, 0, 9));
        due("neither", 1, r.value(0, 1, 1));
        due("the first", FULL, r.value(0, 1, 0));
        due("the second", FULL, r.value(0, 0, 1));
        due("both", FULL, r.value(0, 0, 0));
    }

    // ---- promise 12

    static void p12Inputs() {
        says("12: STATE; BAD (x, y)");
        PathRunner r = crossing();
        due("ahead of a search", STATE, r.along(0, 0));
        r.search(0, 99, 0, 99);
        due("x -17", BAD, r.along(-17, 0));
        due("x -16", 0, r.along(-16, 0));
        due("x 15", 3, r.along(15, 0));
        due("x 16", BAD, r.along(16, 0));
        due("y -17", BAD, r.along(0, -17));
        due("y -16", 2, r.along(0, -16));
        due("y 15", 3, r.along(0, 15));
        due("y 16", BAD, r.along(0, 16));
        due("LOW", BAD, r.along(LOW, 0));
        due("HIGH", BAD, r.along(0, HIGH));
    }

    static void p12NoneThatEnded() {
        says("12: NONE: none that ended");
        PathRunner r = crossing();
        r.search(0, 99, 0, 3);
        due("waits", NONE, r.along(0, 0));
        due("BAD is told ahead of it", BAD, r.along(0, 16));
        r.more(1);
        due("ended", 3, r.along(0, 0));
        r.search(0, 99, 0, 3);
        due("that of the search before is gone", NONE, r.along(0, 0));
        PathRunner all = bits();
        due("100 paths", 100, all.search(0, 100, 0, 100));
        due("the first", 0, all.along(0, 0));
        due("an odd one waits", NONE, all.along(-15, -15));
    }

    // ---- promise 13

    static void p13None() {
        says("13: STATE; NONE");
        PathRunner r = crossing();
        due("ahead of a search", STATE, r.input(0, 0));
        r.search(0, 99, 0, 99);
        due("-1", NONE, r.input(1, -1));
        due("the first", 21, r.input(1, 0));
        due("the 11th", 31, r.input(1, 10));
        due("the 12th", 32 + 21, r.input(1, 11));
        due("the last", 15 * 32 + 31, r.input(1, 16 * 11 - 1));
        due("behind the last", NONE, r.input(1, 16 * 11));
        due("LOW", NONE, r.input(1, LOW));
        due("HIGH", NONE, r.input(1, HIGH));
        due("path -1", NONE, r.input(-1, 0));
        due("path 4", NONE, r.input(4, 0));
        due("path HIGH", NONE, r.input(HIGH, 0));
    }

    static void p13Number() {
        says("13: 32 (x + 16) + y + 16");
        PathRunner r = with(LOAD, 0, LOAD, 1, SAME, 4, THROW, 7, THROW, 8);
        r.search(0, 99, 0, 99);
        due("how many", 32, r.path(0, 5));
        for (int i = 0; i < 32; i++) {
            due("x and y " + (i - 16), 33 * i, r.input(0, i));
        }
        due("none behind", NONE, r.input(0, 32));
    }

    // ---- promise 14

    static void p14None() {
        says("14: STATE; NONE: no such condition");
        PathRunner r = crossing();
        due("ahead of a search", STATE, r.flip(0, 0));
        r.search(0, 99, 0, 99);
        due("-1", NONE, r.flip(3, -1));
        due("the first", 0, r.flip(3, 0));
        due("the last", 16 * 32, r.flip(3, 1));
        due("behind the last", NONE, r.flip(3, 2));
        due("LOW", NONE, r.flip(3, LOW));
        due("HIGH", NONE, r.flip(3, HIGH));
        due("path -1", NONE, r.flip(-1, 0));
        due("path 4", NONE, r.flip(4, 0));
        PathRunner without = with(LOAD, 0, RETURN, 0);
        without.search(0, 9, 0, 9);
        due("of none", NONE, without.flip(0, 0));
    }

    static void p14NoSuchInput() {
        says("14: NONE: no such input");
        PathRunner r = with(LOAD, 0, PUSH, -16, LESS, 4, THROW, 7, THROW, 8);
        r.search(0, 99, 0, 99);
        conditionsAre(r, 0, 2, 1);
        due("none is below -16", NONE, r.flip(0, 0));
        PathRunner second = crossing();
        second.search(0, 99, 0, 99);
        due("y below 0 is below 5", NONE, second.flip(2, 2));
    }

    static void p14LeastOfManyAlternatives() {
        says("14: The least input that .. takes another alternative");
        PathRunner r = with(LOAD, 0, NEW, 0, RETURN, 0);
        r.search(0, 99, 1, 99);
        for (int k = 0; k < 8; k++) {
            due("alternative " + k, k == 6 ? 16 * 32 : 0, r.flip(k, 0));
        }
    }

    static void p14GoesAlongTheFirstConditions() {
        says("14: that goes along the first i CONDITIONS (i from 0)");
        PathRunner r = with(LOAD, 0, PUSH, 3, LESS, 4, THROW, 7, LOAD, 0, PUSH, -3, LESS, 8, THROW, 8, LOAD, 1,
                PUSH, 9, SAME, 12, THROW, 9, THROW, 10);
        due("search", 4, r.search(0, 99, 0, 99));
        due("x not below 3", 19 * 32, r.flip(0, 0));
        due("x below 3, not below -3", 13 * 32, r.flip(0, 1));
        due("x below 3 and below -3, y not 9", 0, r.flip(0, 2));
        due("x below 3 and below -3, y 9", 25, r.flip(1, 2));
    }

    static void p14OfALostWay() {
        says("14: The least input (be its WAY LOST, or waiting)");
        PathRunner r = with(LOAD, 0, LOAD, 1, DIV, 0, RETURN, 0);
        r.search(0, 99, 0, 1);
        due("it waits", NONE, r.along(-16, 0));
        due("and is told", 16, r.flip(0, 0));
    }

    // ---- promise 15

    static void p15What() {
        says("15: STATE; BAD (what)");
        PathRunner r = with(LOAD, 0, PUSH, 127, LESS, 0);
        due("ahead of a search", STATE, r.pruned(0, 0));
        r.search(0, 9, 0, 9);
        due("-1", BAD, r.pruned(0, -1));
        due("0", 2, r.pruned(0, 0));
        due("1", 1, r.pruned(0, 1));
        due("2", BAD, r.pruned(0, 2));
        due("HIGH", BAD, r.pruned(0, HIGH));
        due("ahead of NONE", BAD, r.pruned(-1, 2));
    }

    static void p15None() {
        says("15: NONE");
        PathRunner r = with(LOAD, 0, PUSH, 127, LESS, 0);
        r.search(0, 2, 0, 9);
        due("of none", NONE, r.pruned(0, 0));
        r.search(0, 9, 0, 9);
        due("-1", NONE, r.pruned(-1, 0));
        due("the first of three", 2, r.pruned(2, 0));
        due("3", NONE, r.pruned(3, 0));
        due("LOW", NONE, r.pruned(LOW, 0));
        due("HIGH", NONE, r.pruned(HIGH, 0));
    }

    /** A first SPLIT with a place of its own, then one for each three operations. */
    private static PathRunner pruning() {
        return with(LOAD, 0, PUSH, -16, LESS, 0, LOAD, 0, PUSH, 127, LESS, 3);
    }

    static void p15ThirtyAreKept() {
        says("15: Of the latest PRUNED alternatives (30 are kept)");
        PathRunner r = pruning();
        r.search(0, 90, 0, 9);
        due("30", 30, r.told(2));
        due("the last kept is the first", 2, r.pruned(29, 0));
        due("the last kept is the first", 0, r.pruned(29, 1));
        due("no 31st", NONE, r.pruned(30, 0));
        r.search(0, 93, 0, 9);
        due("31", 31, r.told(2));
        due("the first is gone", 5, r.pruned(29, 0));
        due("the first is gone", 1, r.pruned(29, 1));
        due("no 31st", NONE, r.pruned(30, 0));
        r.search(0, 200, 0, 9);
        due("66", 66, r.told(2));
        due("the 30th", 5, r.pruned(29, 0));
        due("no 31st", NONE, r.pruned(30, 0));
    }

    static void p15FromTheLatestOn() {
        says("15: the k-th from the latest on");
        PathRunner r = pruning();
        r.search(0, 6, 0, 9);
        due("the latest", 5, r.pruned(0, 0));
        due("the latest", 1, r.pruned(0, 1));
        due("the one before", 2, r.pruned(1, 0));
        due("the one before", 0, r.pruned(1, 1));
        PathRunner one = with(LOAD, 0, PUSH, 15, AND, 0, PUSH, 6, ADD, 0, NEW, 0);
        one.search(0, 99, 0, 9);
        for (int k = 0; k < 7; k++) {
            due("of one SPLIT", 6 - k, one.pruned(k, 1));
        }
    }

    // ---- promise 16

    static void p16Method() {
        says("16: STATE; BAD (method)");
        PathRunner r = with(LOAD, 0, RETURN, 0);
        due("ahead of a search", STATE, r.times(0, 0));
        due("ahead of BAD", STATE, r.times(-1, 0));
        r.search(0, 9, 0, 9);
        due("-1", BAD, r.times(-1, 0));
        due("0", 1, r.times(0, 0));
        due("1", BAD, r.times(1, 0));
        due("6", BAD, r.times(6, 0));
        due("LOW", BAD, r.times(LOW, 0));
        due("HIGH", BAD, r.times(HIGH, 0));
    }

    static void p16Operation() {
        says("16: BAD (operation)");
        PathRunner r = with(LOAD, 0, RETURN, 0);
        r.method(0);
        r.search(0, 9, 0, 9);
        due("-1", BAD, r.times(0, -1));
        due("the first", 1, r.times(0, 0));
        due("the last", 1, r.times(0, 1));
        due("behind the last", BAD, r.times(0, 2));
        due("40", BAD, r.times(0, 40));
        due("LOW", BAD, r.times(0, LOW));
        due("HIGH", BAD, r.times(0, HIGH));
        due("of a method without operations", BAD, r.times(1, 0));
        PathRunner forty = with();
        repeat(forty, 0, 40, GOTO, 39);
        forty.search(0, 50, 0, 9);
        due("operation 39", 49, forty.times(0, 39));
        due("operation 38", 0, forty.times(0, 38));
    }

    static void p16SplitOnce() {
        says("16: (a SPLIT once)");
        PathRunner r = with(LOAD, 0, NEW, 0, RETURN, 0);
        r.search(0, 9, 1, 99);
        due("the SPLIT", 1, r.times(0, 1));
        due("the RETURN", 6, r.times(0, 2));
    }

    static void p16InThisSearch() {
        says("16: in this search");
        PathRunner r = with(LOAD, 0, RETURN, 0);
        r.search(0, 9, 0, 9);
        r.search(0, 9, 0, 9);
        due("once", 1, r.times(0, 0));
        r.plain(0, 0, 0, 9, 0);
        r.agrees();
        due("plain runs are none", 1, r.times(0, 0));
        r.search(0, 1, 0, 9);
        due("not come to", 0, r.times(0, 1));
    }

    // ---- promise 17

    static void p17Method() {
        says("17: A plain run of a method with two words. BAD (method)");
        PathRunner r = new PathRunner(0);
        for (int n = 0; n <= 3; n++) {
            r.method(n);
            code(r, n, PUSH, 9, RETURN, 0);
        }
        due("-1", BAD, r.plain(-1, 0, 0, 9, 0));
        due("no arguments", BAD, r.plain(0, 0, 0, 9, 0));
        due("one", BAD, r.plain(1, 0, 0, 9, 0));
        due("two", 1, r.plain(2, 0, 0, 9, 0));
        due("three", BAD, r.plain(3, 0, 0, 9, 0));
        due("4", BAD, r.plain(4, 0, 0, 9, 0));
        due("LOW", BAD, r.plain(LOW, 0, 0, 9, 0));
        due("HIGH", BAD, r.plain(HIGH, 0, 0, 9, 0));
    }

    static void p17Words() {
        says("17: in place of x and y (-128 .. 127)");
        PathRunner x = with(LOAD, 0, RETURN, 0);
        due("x -129", BAD, x.plain(0, -129, 0, 9, 2));
        due("x -128", -128, x.plain(0, -128, 0, 9, 2));
        due("x 127", 127, x.plain(0, 127, 0, 9, 2));
        due("x 128", BAD, x.plain(0, 128, 0, 9, 2));
        due("x LOW", BAD, x.plain(0, LOW, 0, 9, 2));
        due("x HIGH", BAD, x.plain(0, HIGH, 0, 9, 2));
        PathRunner y = with(LOAD, 1, RETURN, 0);
        due("y -129", BAD, y.plain(0, 0, -129, 9, 2));
        due("y -128", -128, y.plain(0, 0, -128, 9, 2));
        due("y 127", 127, y.plain(0, 0, 127, 9, 2));
        due("y 128", BAD, y.plain(0, 0, 128, 9, 2));
        due("y LOW", BAD, y.plain(0, 0, LOW, 9, 2));
        due("y HIGH", BAD, y.plain(0, 0, HIGH, 9, 2));
    }

    static void p17Bound() {
        says("17: with a BOUND (1 .. 200)");
        PathRunner r = with(GOTO, 0);
        due("0", BAD, r.plain(0, 0, 0, 0, 3));
        due("1", 1, r.plain(0, 0, 0, 1, 3));
        due("200", 200, r.plain(0, 0, 0, 200, 3));
        due("201", BAD, r.plain(0, 0, 0, 201, 3));
        due("LOW", BAD, r.plain(0, 0, 0, LOW, 3));
        due("HIGH", BAD, r.plain(0, 0, 0, HIGH, 3));
    }

    static void p17What() {
        says("17: what = 0 .. 3. BAD");
        PathRunner r = with(LOAD, 0, RETURN, 0);
        due("-1", BAD, r.plain(0, 5, 0, 9, -1));
        due("0", 1, r.plain(0, 5, 0, 9, 0));
        due("3", 2, r.plain(0, 5, 0, 9, 3));
        due("4", BAD, r.plain(0, 5, 0, 9, 4));
        due("LOW", BAD, r.plain(0, 5, 0, 9, LOW));
        due("HIGH", BAD, r.plain(0, 5, 0, 9, HIGH));
    }

    static void p17KindOrWord() {
        says("17: 2 the kind, or the word returned (of other OUTCOMES 0)");
        ends("a word", with(LOAD, 0, RETURN, 0), 5, 0, 9, 1, 1, 5);
        ends("a reference", with(NOTHING, 0, RETURN, 0), 5, 0, 9, 2, 1, 0);
        ends("thrown", with(THROW, 12), 5, 0, 9, 3, 0, 12);
        ends("left", with(LOAD, 0, GOTO, 1), 5, 0, 9, 4, 1, 0);
        ends("broken", with(LOAD, 0), 5, 0, 9, 5, 1, 0);
        ends("stopped", with(LOAD, 0, NATIVE, 1), 5, 0, 9, 6, 1, 0);
        PathRunner handled = with(THROW, 12, NATIVE, 1);
        handled.handler(0, 0, 1, 1, 0);
        ends("a kind that was handled", handled, 5, 0, 9, 6, 1, 0);
    }

    static void p17LeavesWhatWasSearched() {
        says("17: A plain run (what was searched stays; without a search too)");
        PathRunner r = crossing();
        due("without a search", 1, r.plain(0, 1, 1, 99, 0));
        due("nothing was searched", STATE, r.told(0));
        r.search(0, 99, 0, 2);
        r.plain(0, -128, 127, 200, 0);
        r.plain(0, 0, 0, 0, 0);
        due("paths", 2, r.told(4));
        due("come to", 11, r.told(3));
        due("more", 4, r.more(9));
        tokensAre(r, 0, 2);
    }

    // ---- promise 18

    static void p18State() {
        says("18: STATE: false");
        PathRunner r = with(LOAD, 0, RETURN, 0);
        due("ahead of a search", false, r.agrees());
        r.search(0, 9, 0, 9);
        due("behind one", true, r.agrees());
        due("again", true, r.agrees());
        r.handler(0, 0, 1, 0, 0);
        due("forgotten", false, r.agrees());
        due("a search that is refused", BAD, r.search(0, 0, 0, 9));
        due("forgotten", false, r.agrees());
    }

    static void p18EachOutcome() {
        says("18: a plain run has that OUTCOME (but 7), PLACE, kind, count, and returns what the FORMULA is");
        int[][] programs = {{LOAD, 0, LOAD, 1, MUL, 0, RETURN, 0}, {LOAD, 0, NEW, 0, RETURN, 0},
            {LOAD, 0, PUSH, 0, LESS, 4, THROW, 7, THROW, 8}, {LOAD, 0, LOAD, 1, LESS, 0, GOTO, 0},
            {LOAD, 0, LOAD, 1, SAME, 3}, {LOAD, 0, LOAD, 1, SAME, 3, NATIVE, 2},
            {LOAD, 0, DUP, 0, MUL, 0, GOTO, 1}};
        for (int i = 0; i < programs.length; i++) {
            PathRunner r = with(programs[i]);
            for (int order = 0; order < 4; order++) {
                r.search(0, 20, order, 100);
                due("outcome", i + 1, r.path(0, 0));
                due("agrees", true, r.agrees());
            }
        }
    }

    static void p18SomePathsOnly() {
        says("18: for each that does (inputs of WAYS that wait, or are LOST, do not count)");
        PathRunner r = bits();
        for (int order = 0; order < 4; order++) {
            r.search(0, 100, order, 1);
            due("one path", true, r.agrees());
            r.more(100);
            due("many paths", true, r.agrees());
        }
    }
}
