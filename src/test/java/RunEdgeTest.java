/**
 * 'Terms', what a run is: for each sentence that names a boundary, a test of its own, with the last
 * value that is taken and the first that is not. The answers were worked out by hand.
 */
public final class RunEdgeTest extends Cases {
    public static void main(String[] args) throws IllegalAccessException {
        runAll(RunEdgeTest.class);
    }

    /** What LOAD x, LOAD y, an operation of two, RETURN comes to. */
    private static void comesTo(int op, int a, int b, int want) {
        PathRunner r = with(LOAD, 0, LOAD, 1, op, 0, RETURN, 0);
        ends("operation " + op, r, a, b, 9, 1, 3, want, 4);
    }

    private static void comesTo(int op, int a, int want) {
        PathRunner r = with(LOAD, 0, op, 0, RETURN, 0);
        ends("operation " + op, r, a, 0, 9, 1, 2, want, 3);
    }

    // ---- words

    static void wordsGoRoundAtAdd() {
        says("WORDS have 8 bits with sign and go round. (ADD)");
        comesTo(ADD, 126, 1, 127);
        comesTo(ADD, 127, 1, -128);
        comesTo(ADD, -127, -1, -128);
        comesTo(ADD, -128, -1, 127);
        comesTo(ADD, -128, -128, 0);
        comesTo(ADD, 127, 127, -2);
    }

    static void wordsGoRoundAtSub() {
        says("WORDS have 8 bits with sign and go round. (SUB)");
        comesTo(SUB, -127, 1, -128);
        comesTo(SUB, -128, 1, 127);
        comesTo(SUB, 126, -1, 127);
        comesTo(SUB, 127, -1, -128);
        comesTo(SUB, 0, -128, -128);
        comesTo(SUB, -128, 127, 1);
    }

    static void wordsGoRoundAtMul() {
        says("WORDS have 8 bits with sign and go round. (MUL)");
        comesTo(MUL, 127, 1, 127);
        comesTo(MUL, 64, 2, -128);
        comesTo(MUL, 43, 3, -127);
        comesTo(MUL, 16, 16, 0);
        comesTo(MUL, 127, 127, 1);
        comesTo(MUL, -128, -1, -128);
        comesTo(MUL, -128, 127, -128);
    }

    static void wordsGoRoundAtNeg() {
        says("WORDS have 8 bits with sign and go round. (NEG)");
        comesTo(NEG, 127, -127);
        comesTo(NEG, -127, 127);
        comesTo(NEG, -128, -128);
        comesTo(NEG, 0, 0);
    }

    static void wordsGoRoundInFormulas() {
        says("WORDS have 8 bits with sign and go round. (in a FORMULA)");
        PathRunner r = with(LOAD, 0, LOAD, 0, MUL, 0, RETURN, 0);
        r.search(0, 9, 0, 9);
        due("11 * 11", 121, r.value(0, 11, 0));
        due("12 * 12", -112, r.value(0, 12, 0));
        due("-15 * -15", -31, r.value(0, -15, 0));
        due("-16 * -16", 0, r.value(0, -16, 0));
        PathRunner number = with(PUSH, 127, PUSH, 1, ADD, 0, RETURN, 0);
        number.search(0, 9, 0, 9);
        tokensAre(number, 0, 1000 - 128);
        due("agrees", true, r.agrees() && number.agrees());
    }

    static void wordsGoRoundAtSplits() {
        says("WORDS have 8 bits with sign and go round. (at a SPLIT)");
        PathRunner r = with(LOAD, 0, LOAD, 0, MUL, 0, PUSH, 0, LESS, 6, THROW, 7, THROW, 8);
        due("x * x below 0", 2, r.search(0, 9, 1, 9));
        due("x from -15 to -12 and from 12 to 15", 8 * 32, r.path(0, 5));
        due("the first", 32, r.input(0, 0));
        due("the last", 1023, r.input(0, 8 * 32 - 1));
        due("agrees", true, r.agrees());
    }

    // ---- calls of one object

    static void all512Calls() {
        says("An object is used for at most 512 calls after it has been made");
        PathRunner r = new PathRunner(7);
        r.method(2);
        code(r, 0, LOAD, 0, LOAD, 1, DIV, 0, RETURN, 0);
        for (int made = 5; made < 511; made += 2) {
            due("call " + made + ", search", 2, r.search(0, 50, made % 4, 100));
            due("call " + made + ", plain", 3, r.plain(0, 7, 2, 50, 2));
        }
        due("the 512th", true, r.agrees());
    }

    static void all512CallsWithLongWays() {
        says("An object is used for at most 512 calls (each of them may have long WAYS)");
        // 64 ways of 200 operations, most of which make a formula, and all this eight times
        PathRunner r = with(LOAD, 0, NEW, 0, POP, 0, LOAD, 1, NEW, 0, POP, 0, LOAD, 0);
        repeat(r, 0, 30, NEG, 0);
        code(r, 0, POP, 0, GOTO, 6);
        r.handler(0, 1, 2, 2, 0);
        r.handler(0, 4, 5, 5, 0);
        for (int i = 0; i < 8; i++) {
            due("search", 64, r.search(0, 200, 0, 100));
            for (int k = 0; k < 64; k++) {
                due("LEFT, not BIG", 4, r.path(k, 0));
            }
            r.operation(0, POP, 0);
        }
    }

    // ---- methods, locals, stacks, arrays, depth

    static void methodsAre6() {
        says("METHODS 0 .. 5 (at most)");
        PathRunner r = new PathRunner(0);
        for (int i = 0; i < 6; i++) {
            due("method " + i, i, r.method(2));
            due("its first operation", 1, r.operation(i, THROW, 7 + i));
        }
        due("a seventh", FULL, r.method(2));
        due("an operation of it", BAD, r.operation(6, THROW, 7));
        due("a search of it", BAD, r.search(6, 9, 0, 9));
        due("the last one", 1, r.search(5, 9, 0, 9));
        pathIs(r, 0, 3, 500, 12, 1);
    }

    static void argumentsAre0To3() {
        says("0 to 3 ARGUMENTS");
        for (int n = 0; n <= 3; n++) {
            PathRunner r = withCalled(n, new int[] {PUSH, 9, RETURN, 0});
            repeat(r, 0, n, PUSH, 1);
            code(r, 0, CALL, 1, RETURN, 0);
            ends(n + " arguments", r, 0, 0, 30, 1, n + 1, 9, n + 4);
        }
        PathRunner r = new PathRunner(0);
        due("-1", BAD, r.method(-1));
        due("4", BAD, r.method(4));
    }

    static void argumentsFewerThanTaken() {
        says("CALL method A: its arguments; BROKEN: too few values");
        for (int n = 1; n <= 3; n++) {
            PathRunner r = withCalled(n, new int[] {PUSH, 9, RETURN, 0});
            repeat(r, 0, n - 1, PUSH, 1);
            code(r, 0, CALL, 1, RETURN, 0);
            ends(n - 1 + " of " + n, r, 0, 0, 30, 5, n - 1, 0, n);
        }
    }

    static void operationsAre40() {
        says("at most 40 OPERATIONS");
        PathRunner r = new PathRunner(0);
        r.method(2);
        for (int i = 0; i < 38; i++) {
            due("operation " + i, i + 1, r.operation(0, GOTO, i + 1));
        }
        due("the 39th", 39, r.operation(0, PUSH, 5));
        due("the 40th", 40, r.operation(0, RETURN, 0));
        due("a 41st", FULL, r.operation(0, THROW, 7));
        ends("all are done", r, 0, 0, 200, 1, 39, 5, 40);
        due("another method", 1, r.method(2));
        due("has room", 1, r.operation(1, THROW, 7));
    }

    static void noOperationBehindThe40th() {
        says("an operation that is none behind the last one (behind the 40th)");
        PathRunner over = with();
        for (int i = 0; i < 39; i++) {
            code(over, 0, GOTO, i + 1);
        }
        code(over, 0, PUSH, 1);
        ends("place 40", over, 0, 0, 200, 5, 40, 0, 40);
        ends("place 40, at the bound", over, 0, 0, 40, 4, 40, 0, 40);
        over.search(0, 200, 3, 9);
        pathIs(over, 0, 5, 40, 0, 40, 0, 1024, 0);
        PathRunner r = with();
        repeat(r, 0, 40, GOTO, 39);
        ends("operation 39 is one", r, 0, 0, 200, 4, 39, 0, 200);
    }

    static void handlersAre4() {
        says("4 HANDLERS");
        PathRunner r = with(THROW, 7, RETURN, 0);
        for (int i = 1; i <= 3; i++) {
            due("handler " + i, i, r.handler(0, 0, 1, 1, 7 + i));
        }
        due("the fourth", 4, r.handler(0, 0, 1, 1, 11));
        due("a fifth", FULL, r.handler(0, 0, 1, 1, 7));
        ends("a fifth handles nothing", r, 0, 0, 9, 3, 0, 7, 1);
        due("another method", 1, r.method(0));
        due("has room", 1, r.handler(1, 0, 1, 1, 7));
        ends("that of another method handles nothing", r, 0, 0, 9, 3, 0, 7, 1);
        PathRunner last = with(THROW, 7, RETURN, 0);
        for (int i = 1; i <= 3; i++) {
            last.handler(0, 0, 1, 1, 7 + i);
        }
        due("the fourth", 4, last.handler(0, 0, 1, 1, 7));
        ends("a fourth handles", last, 0, 0, 9, 1, 1, 7, 2);
    }

    static void handlersOfTheLastMethod() {
        says("METHODS 0 .. 5 (at most): 4 HANDLERS (of the last method)");
        PathRunner r = new PathRunner(0);
        for (int i = 0; i < 6; i++) {
            r.method(2);
        }
        code(r, 5, THROW, 7, RETURN, 0);
        for (int i = 1; i <= 3; i++) {
            due("handler", i, r.handler(5, 0, 1, 1, 8));
        }
        due("thrown", 3, r.plain(5, 0, 0, 9, 0));
        due("the fourth", 4, r.handler(5, 0, 1, 1, 9));
        due("a fifth", FULL, r.handler(5, 0, 1, 1, 7));
        due("thrown", 3, r.plain(5, 0, 0, 9, 0));
        due("its place", 500, r.plain(5, 0, 0, 9, 1));
    }

    static void runBeginsWithTwoArguments() {
        says("A run begins with a method of two arguments, which are x and y.");
        PathRunner r = new PathRunner(0);
        for (int n = 0; n <= 3; n++) {
            r.method(n);
            code(r, n, LOAD, 0, RETURN, 0);
            due(n + " arguments, search", n == 2 ? 1 : BAD, r.search(n, 9, 0, 9));
            due(n + " arguments, plain", n == 2 ? 1 : BAD, r.plain(n, 0, 0, 9, 0));
        }
        ends("x", with(LOAD, 0, RETURN, 0), 5, 9, 9, 1, 1, 5, 2);
        ends("y", with(LOAD, 1, RETURN, 0), 5, 9, 9, 1, 1, 9, 2);
    }

    static void localsAreArgumentsThenNothing() {
        says("Each call has LOCALS 0 .. 5, the arguments, then nothing");
        for (int n = 0; n <= 3; n++) {
            for (int i = 0; i <= 5; i++) {
                PathRunner r = withCalled(n, new int[] {LOAD, i, RETURN, 0});
                for (int a = 0; a < n; a++) {
                    code(r, 0, PUSH, 10 + a);
                }
                code(r, 0, CALL, 1, RETURN, 0);
                if (i < n) {
                    ends("argument " + i + " of " + n, r, 0, 0, 30, 1, n + 1, 10 + i, n + 4);
                } else {
                    ends("local " + i + " behind " + n, r, 0, 0, 30, 5, 100, 0, n + 2);
                }
            }
        }
    }

    static void localsOfTheRun() {
        says("a local with nothing");
        for (int i = 2; i <= 5; i++) {
            ends("local " + i, with(LOAD, i), 1, 2, 9, 5, 0, 0, 1);
            ends("kept in " + i, with(LOAD, 1, STORE, i, LOAD, i, RETURN, 0), 1, 2, 9, 1, 3, 2, 4);
        }
        ends("null is not nothing", with(NOTHING, 0, STORE, 2, LOAD, 2, RETURN, 0), 1, 2, 9, 2, 3, 0, 4);
    }

    static void localsAreOfOneCall() {
        says("Each call has LOCALS");
        // Called with 0 it keeps local 3; called with 1 it asks for it.
        int[] called = {LOAD, 0, PUSH, 0, SAME, 5, LOAD, 3, RETURN, 0, PUSH, 1, STORE, 3, LOAD, 3, RETURN, 0};
        PathRunner r = withCalled(1, called,
                PUSH, 0, CALL, 1, POP, 0, PUSH, 1, CALL, 1, RETURN, 0);
        ends("a later call has nothing again", r, 0, 0, 99, 5, 103, 0, 16);
        PathRunner kept = withCalled(0, new int[] {PUSH, 99, STORE, 0, LOAD, 0, RETURN, 0},
                CALL, 1, POP, 0, LOAD, 0, RETURN, 0);
        ends("those of the caller stay", kept, 5, 0, 99, 1, 3, 5, 8);
    }

    static void stackHolds12() {
        says("a STACK of 12 values at most");
        PathRunner r = with();
        repeat(r, 0, 12, LOAD, 0);
        code(r, 0, RETURN, 0);
        ends("12", r, 5, 0, 99, 1, 12, 5, 13);
        int[][] grow = {{PUSH, 0}, {LOAD, 0}, {DUP, 0}, {NOTHING, 0}};
        for (int[] op : grow) {
            PathRunner eleven = with();
            repeat(eleven, 0, 11, LOAD, 0);
            code(eleven, 0, op[0], op[1], THROW, 9);
            ends(op[0] + ": a 12th", eleven, 5, 0, 99, 3, 12, 9, 13);
            PathRunner twelve = with();
            repeat(twelve, 0, 12, LOAD, 0);
            code(twelve, 0, op[0], op[1], THROW, 9);
            ends(op[0] + ": a 13th", twelve, 5, 0, 99, 5, 12, 0, 13);
        }
    }

    static void stackOf12IsNoHindrance() {
        says("a STACK of 12 values at most (operations that leave no more than they take)");
        int[][] stay = {{STORE, 5}, {POP, 0}, {SWAP, 0}, {ADD, 0}, {SUB, 0}, {MUL, 0}, {DIV, 0}, {REM, 0},
            {NEG, 0}, {AND, 0}, {OR, 0}, {XOR, 0}, {SHL, 0}, {SHR, 0}, {GOTO, 13}, {LESS, 13}, {SAME, 13},
            {NEW, 0}, {NATIVE, 0}};
        for (int[] op : stay) {
            PathRunner r = with();
            repeat(r, 0, 12, LOAD, 0);
            code(r, 0, op[0], op[1], THROW, 9);
            ends("operation " + op[0], r, 5, 0, 99, 3, 13, 9, 14);
        }
        PathRunner array = with(PUSH, 5, NEW, 0, STORE, 5);
        repeat(array, 0, 11, LOAD, 0);
        code(array, 0, LOAD, 5, LENGTH, 0, THROW, 9);
        ends("LENGTH", array, 3, 0, 99, 3, 16, 9, 17);
        PathRunner get = with(PUSH, 5, NEW, 0, STORE, 5);
        repeat(get, 0, 10, LOAD, 0);
        code(get, 0, LOAD, 5, LOAD, 0, GET, 0, THROW, 9);
        ends("GET", get, 3, 0, 99, 3, 16, 9, 17);
        PathRunner set = with(PUSH, 5, NEW, 0, STORE, 5);
        repeat(set, 0, 9, LOAD, 0);
        code(set, 0, LOAD, 5, LOAD, 0, LOAD, 0, SET, 0, THROW, 9);
        ends("SET", set, 3, 0, 99, 3, 16, 9, 17);
    }

    static void stackIsOfOneCall() {
        says("Each call has .. a STACK of 12 values");
        PathRunner r = with();
        repeat(r, 0, 12, LOAD, 0);
        code(r, 0, CALL, 1, RETURN, 0);
        r.method(1);
        repeat(r, 1, 12, LOAD, 0);
        code(r, 1, RETURN, 0);
        ends("12 below, 12 above", r, 5, 0, 99, 1, 13, 5, 27);
        PathRunner below = withCalled(0, new int[] {POP, 0}, LOAD, 0, CALL, 1, RETURN, 0);
        ends("those of the caller are not there", below, 5, 0, 99, 5, 100, 0, 3);
    }

    static void arraysAre4() {
        says("at most 4 ARRAYS .. that the run made; kind 4: a fifth array");
        PathRunner r = with(PUSH, 0, NEW, 0, POP, 0, GOTO, 0);
        ends("four", r, 0, 0, 16, 4, 0, 0, 16);
        ends("a fifth, though none is held", r, 0, 0, 99, 3, 1, 4, 18);
        PathRunner called = withCalled(0, new int[] {PUSH, 5, NEW, 0, RETURN, 0},
                CALL, 1, POP, 0, GOTO, 0);
        ends("made in calls", called, 0, 0, 99, 3, 101, 4, 27);
    }

    static void arraysThatWereNotMade() {
        says("one of at most 4 ARRAYS that the run made (a NEW that throws makes none)");
        PathRunner r = with(LOAD, 0, NEW, 0, POP, 0);
        for (int i = 0; i < 4; i++) {
            code(r, 0, PUSH, 5, NEW, 0);
        }
        code(r, 0, RETURN, 0);
        r.handler(0, 1, 2, 2, 0);
        ends("below 0, then four", r, -1, 0, 99, 2, 11, 0, 12);
        ends("above 5, then four", r, 6, 0, 99, 2, 11, 0, 12);
        ends("one, then a fourth is a fifth", r, 0, 0, 99, 3, 10, 4, 11);
    }

    static void arraysAre0To5Long() {
        says("ARRAYS of WORDS, 0 to 5 long; kinds 3 a length below 0, 4 one above 5");
        PathRunner r = with(LOAD, 0, NEW, 0, LENGTH, 0, RETURN, 0);
        for (int length = 0; length <= 5; length++) {
            ends("length " + length, r, length, 0, 9, 1, 3, length, 4);
        }
        ends("length -1", r, -1, 0, 9, 3, 1, 3, 2);
        ends("length -128", r, -128, 0, 9, 3, 1, 3, 2);
        ends("length 6", r, 6, 0, 9, 3, 1, 4, 2);
        ends("length 127", r, 127, 0, 9, 3, 1, 4, 2);
    }

    static void fifthArrayBelow0() {
        says("3 a length below 0; 4 one above 5, or a fifth array (the first told)");
        PathRunner r = with();
        for (int i = 0; i < 4; i++) {
            code(r, 0, PUSH, 0, NEW, 0);
        }
        code(r, 0, LOAD, 0, NEW, 0);
        ends("-1", r, -1, 0, 99, 3, 9, 3, 10);
        ends("0", r, 0, 0, 99, 3, 9, 4, 10);
        ends("6", r, 6, 0, 99, 3, 9, 4, 10);
    }

    static void callsAre4Deep() {
        says("Calls are 4 deep at most (that of the run is the first); kind 6 a call too deep");
        // Method 1 calls itself with one less, till 0.
        int[] called = {LOAD, 0, PUSH, 0, SAME, 10, LOAD, 0, PUSH, 1, SUB, 0, CALL, 1, PUSH, 1, ADD, 0,
            RETURN, 0, PUSH, 0, RETURN, 0};
        PathRunner r = withCalled(1, called, LOAD, 0, CALL, 1, RETURN, 0);
        ends("2 deep", r, 0, 0, 99, 1, 2, 0, 8);
        ends("4 deep", r, 2, 0, 99, 1, 2, 2, 28);
        ends("5 deep", r, 3, 0, 99, 3, 106, 6, 23);
        PathRunner often = withCalled(0, new int[] {PUSH, 1, RETURN, 0}, CALL, 1, POP, 0, GOTO, 0);
        ends("one after the other, as often as one likes", often, 0, 0, 200, 4, 0, 0, 200);
    }

    static void depthAfterThrow() {
        says("else the call ends (and its depth with it)");
        // Each turn goes 4 deep and is thrown out of it.
        PathRunner r = with(CALL, 1, POP, 0, GOTO, 0);
        for (int m = 1; m <= 3; m++) {
            r.method(0);
            code(r, m, m == 3 ? THROW : CALL, m == 3 ? 7 : m + 1);
        }
        r.handler(0, 0, 1, 1, 7);
        ends("never too deep", r, 0, 0, 198, 4, 0, 0, 198);
    }

    // ---- operations

    /** Operation, its number, how many values it leaves, and what it takes: 0 a word, 1 an array. */
    private static final int[][] TAKEN = {
        {PUSH, 9, 1}, {LOAD, 0, 1}, {STORE, 4, 0, 0}, {POP, 0, 0, 0}, {DUP, 0, 2, 0}, {SWAP, 0, 2, 0, 0},
        {ADD, 0, 1, 0, 0}, {SUB, 0, 1, 0, 0}, {MUL, 0, 1, 0, 0}, {DIV, 0, 1, 0, 0}, {REM, 0, 1, 0, 0},
        {NEG, 0, 1, 0}, {AND, 0, 1, 0, 0}, {OR, 0, 1, 0, 0}, {XOR, 0, 1, 0, 0}, {SHL, 0, 1, 0, 0},
        {SHR, 0, 1, 0, 0}, {GOTO, 20, 0}, {LESS, 20, 0, 0, 0}, {SAME, 20, 0, 0, 0}, {NULL, 20, 0, 1},
        {NEW, 0, 1, 0}, {GET, 0, 1, 1, 0}, {SET, 0, 0, 1, 0, 0}, {LENGTH, 0, 1, 1}, {CALL, 1, 1, 0, 1, 0},
        {NOTHING, 0, 1}, {NATIVE, 0, 1, 0}};

    /** A word 77, the values that an operation takes, the operation; from 20 on so many POPs; then the end. */
    private static PathRunner taking(int[] row, int pops, int end) {
        PathRunner r = with(PUSH, 3, NEW, 0, STORE, 5, PUSH, 77);
        for (int i = 3; i < row.length; i++) {
            code(r, 0, LOAD, row[i] == 1 ? 5 : 0);
        }
        code(r, 0, row[0], row[1]);
        for (int i = 5 + row.length - 3; i < 20; i++) {
            code(r, 0, GOTO, 20);
        }
        repeat(r, 0, pops, POP, 0);
        code(r, 0, end, 0);
        r.method(3);
        code(r, 1, PUSH, 44, RETURN, 0);
        return r;
    }

    static void operationsTakeAndLeave() {
        says("what they take from the STACK (the last one from the top) and leave");
        for (int[] row : TAKEN) {
            int leaves = row[2];
            PathRunner below = taking(row, leaves, RETURN);
            ends("operation " + row[0] + ": what is below stays", below, 2, 0, 99, 1, 20 + leaves, 77);
            PathRunner none = taking(row, leaves + 1, POP);
            ends("operation " + row[0] + ": and nothing else", none, 2, 0, 99, 5, 21 + leaves, 0);
        }
    }

    static void swapTurnsTwo() {
        says("5 SWAP; the last one from the top");
        ends("SWAP, SUB", with(PUSH, 50, LOAD, 0, LOAD, 1, SWAP, 0, SUB, 0, RETURN, 0), 3, 10, 9, 1, 5, 7, 6);
        ends("the one below it", with(PUSH, 50, LOAD, 0, LOAD, 1, SWAP, 0, POP, 0, RETURN, 0), 3, 10, 9, 1, 5, 10, 6);
        ends("SUB", with(LOAD, 0, LOAD, 1, SUB, 0, RETURN, 0), 3, 10, 9, 1, 3, -7, 4);
    }

    static void divAndRemCut() {
        says("9 DIV, 10 REM, cut toward 0 (-128 by -1 goes round)");
        comesTo(DIV, -128, -1, -128);
        comesTo(REM, -128, -1, 0);
        comesTo(DIV, -127, -1, 127);
        comesTo(DIV, -128, 1, -128);
        comesTo(DIV, 7, 2, 3);
        comesTo(DIV, -7, 2, -3);
        comesTo(DIV, 7, -2, -3);
        comesTo(DIV, -7, -2, 3);
        comesTo(REM, 7, 2, 1);
        comesTo(REM, -7, 2, -1);
        comesTo(REM, 7, -2, 1);
        comesTo(REM, -7, -2, -1);
        comesTo(DIV, 127, -128, 0);
        comesTo(REM, 127, -128, 127);
    }

    static void divGoesRoundInFormulas() {
        says("(-128 by -1 goes round) (in a FORMULA)");
        PathRunner r = with(LOAD, 0, PUSH, 8, MUL, 0, LOAD, 1, DIV, 0, RETURN, 0);
        r.search(0, 9, 0, 9);
        due("-128 by -1", -128, r.value(0, -16, -1));
        due("-120 by -1", 120, r.value(0, -15, -1));
        PathRunner rest = with(LOAD, 0, PUSH, 8, MUL, 0, LOAD, 1, REM, 0, RETURN, 0);
        rest.search(0, 9, 0, 9);
        due("-128 by -1", 0, rest.value(0, -16, -1));
        PathRunner number = with(PUSH, -128, PUSH, -1, DIV, 0, RETURN, 0);
        number.search(0, 9, 0, 9);
        tokensAre(number, 0, 1000 - 128);
    }

    static void divByZero() {
        says("kind 1 DIV or REM by 0");
        int[] ops = {DIV, REM};
        for (int op : ops) {
            PathRunner r = with(LOAD, 0, LOAD, 1, op, 0, THROW, 12);
            ends("by 0", r, 5, 0, 9, 3, 2, 1, 3);
            ends("0 by 0", r, 0, 0, 9, 3, 2, 1, 3);
            ends("by 1", r, 5, 1, 9, 3, 3, 12, 4);
            ends("by -1", r, 5, -1, 9, 3, 3, 12, 4);
            ends("by -128", r, 5, -128, 9, 3, 3, 12, 4);
        }
    }

    static void bitsOfWordsWithSign() {
        says("12 AND, 13 OR, 14 XOR: a, b (WORDS have 8 bits with sign)");
        comesTo(AND, -128, 127, 0);
        comesTo(AND, -1, -128, -128);
        comesTo(AND, -1, 127, 127);
        comesTo(OR, -128, 127, -1);
        comesTo(OR, 0, -128, -128);
        comesTo(XOR, -128, 127, -1);
        comesTo(XOR, -1, -128, 127);
        comesTo(XOR, -1, -1, 0);
    }

    static void shiftsTakeThreeBits() {
        says("15 SHL, 16 SHR (with sign): a, and the lowest three bits of b");
        comesTo(SHL, 1, 0, 1);
        comesTo(SHL, 1, 7, -128);
        comesTo(SHL, 1, 8, 1);
        comesTo(SHL, 1, 9, 2);
        comesTo(SHL, 1, -1, -128);
        comesTo(SHL, 1, -8, 1);
        comesTo(SHL, 3, 7, -128);
        comesTo(SHL, -1, 1, -2);
        comesTo(SHL, 64, 1, -128);
        comesTo(SHL, 127, 127, -128);
        comesTo(SHL, 127, -128, 127);
        comesTo(SHR, -128, 7, -1);
        comesTo(SHR, -128, 8, -128);
        comesTo(SHR, -128, -1, -1);
        comesTo(SHR, -128, -8, -128);
        comesTo(SHR, 127, 7, 0);
        comesTo(SHR, 127, 6, 1);
        comesTo(SHR, -1, 7, -1);
        comesTo(SHR, -3, 1, -2);
    }

    static void shiftsInFormulas() {
        says("a, and the lowest three bits of b (in a FORMULA)");
        PathRunner left = with(LOAD, 0, LOAD, 1, SHL, 0, RETURN, 0);
        left.search(0, 9, 0, 9);
        due("1 by 7", -128, left.value(0, 1, 7));
        due("1 by 8", 1, left.value(0, 1, 8));
        due("1 by -1", -128, left.value(0, 1, -1));
        due("1 by -16", 1, left.value(0, 1, -16));
        due("15 by 15", -128, left.value(0, 15, 15));
        PathRunner right = with(LOAD, 0, LOAD, 1, SHR, 0, RETURN, 0);
        right.search(0, 9, 0, 9);
        due("-16 by 4", -1, right.value(0, -16, 4));
        due("-16 by 3", -2, right.value(0, -16, 3));
        due("-16 by 8", -16, right.value(0, -16, 8));
        due("15 by -5", 1, right.value(0, 15, -5));
    }

    static void lessIsBelow() {
        says("18 LESS: a, b: to A, if a is less");
        PathRunner r = with(LOAD, 0, LOAD, 1, LESS, 4, THROW, 7, THROW, 8);
        ends("one less", r, 4, 5, 9, 3, 4, 8, 4);
        ends("the same", r, 5, 5, 9, 3, 3, 7, 4);
        ends("one more", r, 6, 5, 9, 3, 3, 7, 4);
        ends("least and greatest", r, -128, 127, 9, 3, 4, 8, 4);
        ends("greatest and least", r, 127, -128, 9, 3, 3, 7, 4);
        ends("below 0", r, -1, 0, 9, 3, 4, 8, 4);
    }

    static void sameIsTheSame() {
        says("19 SAME: a, b: to A, if they are the same word");
        PathRunner r = with(LOAD, 0, LOAD, 1, SAME, 4, THROW, 7, THROW, 8);
        ends("the same", r, 5, 5, 9, 3, 4, 8, 4);
        ends("one less", r, 4, 5, 9, 3, 3, 7, 4);
        ends("one more", r, 6, 5, 9, 3, 3, 7, 4);
        ends("the other sign", r, -5, 5, 9, 3, 3, 7, 4);
        ends("least", r, -128, -128, 9, 3, 4, 8, 4);
    }

    static void emptyArrayIsNotNull() {
        says("20 NULL: a reference: to A, if it is null");
        ends("null", with(NOTHING, 0, NULL, 3, THROW, 7, THROW, 8), 0, 0, 9, 3, 3, 8, 3);
        PathRunner r = with(LOAD, 0, NEW, 0, NULL, 4, THROW, 7, THROW, 8);
        ends("an array of none", r, 0, 0, 9, 3, 3, 7, 4);
        ends("an array of five", r, 5, 0, 9, 3, 3, 7, 4);
    }

    static void jumpsTo0And39() {
        says("GOTO operation A; to A (the first and the last)");
        PathRunner r = with(PUSH, 0, PUSH, 0, SAME, 39);
        repeat(r, 0, 36, THROW, 7);
        code(r, 0, GOTO, 0);
        ends("to 39 and to 0", r, 0, 0, 8, 4, 0, 0, 8);
        ends("the fourth is operation 39", r, 0, 0, 3, 4, 39, 0, 3);
    }

    static void newIsOfZeros() {
        says("21 NEW: a length: an array of 0s");
        PathRunner r = with(PUSH, 5, NEW, 0, LOAD, 0, GET, 0, RETURN, 0);
        for (int i = 0; i < 5; i++) {
            ends("element " + i, r, i, 0, 9, 1, 4, 0, 5);
        }
        // What an earlier run kept in its arrays is gone.
        PathRunner twice = with(PUSH, 5, NEW, 0, DUP, 0, LOAD, 0, PUSH, 9, SET, 0, LOAD, 0, GET, 0, RETURN, 0);
        twice.method(2);
        code(twice, 1, PUSH, 5, NEW, 0, LOAD, 0, GET, 0, RETURN, 0);
        due("kept", 6, twice.search(0, 99, 1, 99));
        due("kept", 9, twice.value(2, 0, 0));
        due("kept", 9, twice.plain(0, 2, 0, 99, 2));
        due("gone", 6, twice.search(1, 99, 1, 99));
        for (int k = 0; k < 5; k++) {
            tokensAre(twice, k, 1000);
        }
        due("gone", 0, twice.plain(1, 2, 0, 99, 2));
    }

    static void indexesOfGet() {
        says("kind 2 an index that is not there (GET)");
        PathRunner r = with(LOAD, 0, NEW, 0, LOAD, 1, GET, 0, RETURN, 0);
        for (int length = 0; length <= 5; length++) {
            if (length > 0) {
                ends("the first", r, length, 0, 9, 1, 4, 0, 5);
                ends("the last", r, length, length - 1, 9, 1, 4, 0, 5);
            }
            ends("behind the last", r, length, length, 9, 3, 3, 2, 4);
            ends("ahead of the first", r, length, -1, 9, 3, 3, 2, 4);
            ends("far", r, length, 127, 9, 3, 3, 2, 4);
            ends("far below", r, length, -128, 9, 3, 3, 2, 4);
        }
    }

    static void indexesOfSet() {
        says("kind 2 an index that is not there (SET)");
        PathRunner r = with(LOAD, 0, NEW, 0, DUP, 0, LOAD, 1, PUSH, 77, SET, 0, LOAD, 1, GET, 0, RETURN, 0);
        for (int length = 0; length <= 5; length++) {
            if (length > 0) {
                ends("the first", r, length, 0, 9, 1, 8, 77, 9);
                ends("the last", r, length, length - 1, 9, 1, 8, 77, 9);
            }
            ends("behind the last", r, length, length, 9, 3, 5, 2, 6);
            ends("ahead of the first", r, length, -1, 9, 3, 5, 2, 6);
        }
    }

    static void callOf13th() {
        says("what it returns (BROKEN at the CALL, where that would be a 13th value)");
        for (int arguments = 0; arguments <= 1; arguments++) {
            for (int values = 11; values <= 12; values++) {
                PathRunner r = with();
                repeat(r, 0, values, LOAD, 0);
                code(r, 0, CALL, 1, RETURN, 0);
                r.method(arguments);
                code(r, 1, PUSH, 33, RETURN, 0);
                r.handler(0, 0, 40, 39, 0);
                if (arguments == 0 && values == 12) {
                    ends("12 and one more", r, 5, 0, 99, 5, 12, 0, 13);
                } else {
                    ends(values + " less " + arguments, r, 5, 0, 99, 1, values + 1, 33, values + 4);
                }
            }
        }
    }

    static void nativeAbsolute() {
        says("29 NATIVE A: A = 0: a word: its absolute (of -128 itself)");
        comesTo(NATIVE, -128, -128);
        comesTo(NATIVE, -127, 127);
        comesTo(NATIVE, -1, 1);
        comesTo(NATIVE, 0, 0);
        comesTo(NATIVE, 127, 127);
        PathRunner r = with(LOAD, 0, PUSH, 8, MUL, 0, NATIVE, 0, RETURN, 0);
        r.search(0, 9, 0, 9);
        tokensAre(r, 0, 1, 1008, 8, 29);
        due("of -128", -128, r.value(0, -16, 0));
        due("of -120", 120, r.value(0, -15, 0));
    }

    static void nativeStops() {
        says("NATIVE A: others: STOP");
        for (int a = 1; a <= 3; a++) {
            ends("with a value", with(LOAD, 0, NATIVE, a, RETURN, 0), 5, 0, 9, 6, 1, 0, 2);
            ends("with none", with(NATIVE, a, RETURN, 0), 5, 0, 9, 6, 0, 0, 1);
        }
    }

    // ---- throws and handlers

    static void throwsAre7To12() {
        says("7 .. 12 by THROW");
        for (int kind = 7; kind <= 12; kind++) {
            ends("kind " + kind, with(THROW, kind), 0, 0, 9, 3, 0, kind, 1);
            PathRunner r = with(THROW, kind, RETURN, 0);
            r.handler(0, 0, 1, 1, kind);
            ends("handled", r, 0, 0, 9, 1, 1, kind, 2);
        }
    }

    /** The kind that a handler finds, for each of the kinds 1 to 6; its target returns it. */
    private static void handledAs(int kind, int... pairs) {
        PathRunner r = with(GOTO, 2, RETURN, 0);
        code(r, 0, pairs);
        int at = 1 + pairs.length / 2;
        for (int other = 1; other <= 6; other++) {
            if (other != kind && r.handler(0, 0, 40, 39, other) == 3) {
                break;
            }
        }
        due("a handler of kind " + kind, 4, r.handler(0, at, at + 1, 1, kind));
        r.method(0);
        code(r, 1, CALL, 2);
        r.method(0);
        code(r, 2, CALL, 3);
        r.method(0);
        code(r, 3, CALL, 3);
        ends("kind " + kind, r, 0, 0, 99, 1, 1, kind);
    }

    static void kinds1To6() {
        says("THROWS: kind 1 DIV or REM by 0; 2 an index that is not there; 3 a length below 0; 4 one above 5; 5 null; 6 a call too deep");
        handledAs(1, PUSH, 1, PUSH, 0, DIV, 0);
        handledAs(1, PUSH, 1, PUSH, 0, REM, 0);
        handledAs(2, PUSH, 1, NEW, 0, PUSH, 1, GET, 0);
        handledAs(2, PUSH, 1, NEW, 0, PUSH, -1, PUSH, 0, SET, 0);
        handledAs(3, PUSH, -1, NEW, 0);
        handledAs(4, PUSH, 6, NEW, 0);
        handledAs(4, PUSH, 0, NEW, 0, PUSH, 0, NEW, 0, PUSH, 0, NEW, 0, PUSH, 0, NEW, 0, PUSH, 0, NEW, 0);
        handledAs(5, NOTHING, 0, PUSH, 0, GET, 0);
        handledAs(5, NOTHING, 0, PUSH, 0, PUSH, 0, SET, 0);
        handledAs(5, NOTHING, 0, LENGTH, 0);
        handledAs(6, CALL, 1);
    }

    static void tooDeepIsThrownAtItsCall() {
        says("6 a call too deep (is thrown at the CALL that would be the fifth)");
        PathRunner r = with(CALL, 1, RETURN, 0);
        for (int m = 1; m <= 3; m++) {
            r.method(0);
            code(r, m, CALL, m == 3 ? 1 : m + 1, RETURN, 0, RETURN, 0);
        }
        ends("nobody handles it", r, 0, 0, 99, 3, 300, 6, 4);
        r.handler(3, 0, 1, 2, 6);
        ends("handled four deep", r, 0, 0, 99, 1, 1, 6, 8);
    }

    static void nullAheadOfIndex() {
        says("5 null, where an array has to be (ahead of 2)");
        PathRunner get = with(NOTHING, 0, LOAD, 0, GET, 0);
        PathRunner set = with(NOTHING, 0, LOAD, 0, PUSH, 1, SET, 0);
        int[] indexes = {-1, 0, 5, 127};
        for (int index : indexes) {
            ends("GET", get, index, 0, 9, 3, 2, 5, 3);
            ends("SET", set, index, 0, 9, 3, 3, 5, 4);
        }
        ends("LENGTH", with(NOTHING, 0, LENGTH, 0), 0, 0, 9, 3, 1, 5, 2);
    }

    static void handlersWithoutTo() {
        says("one from FROM to TO (without TO)");
        for (int at = 0; at < 5; at++) {
            PathRunner r = with();
            for (int i = 0; i < 5; i++) {
                code(r, 0, i == at ? THROW : PUSH, 7);
            }
            code(r, 0, RETURN, 0);
            r.handler(0, 1, 3, 5, 7);
            if (at == 1 || at == 2) {
                ends("thrown at " + at, r, 0, 0, 99, 1, 5, 7, at + 2);
            } else {
                ends("thrown at " + at, r, 0, 0, 99, 3, at, 7, at + 1);
            }
        }
        PathRunner whole = with(GOTO, 39, RETURN, 0);
        repeat(whole, 0, 37, POP, 0);
        code(whole, 0, THROW, 8);
        whole.handler(0, 39, 40, 1, 0);
        ends("TO 40 has operation 39 in it", whole, 0, 0, 99, 1, 1, 8, 3);
    }

    static void handlersOfThatKindOrAny() {
        says("of that kind or 0 (any)");
        for (int kind = 0; kind <= 12; kind++) {
            PathRunner r = with(THROW, 8, RETURN, 0);
            r.handler(0, 0, 1, 1, kind);
            if (kind == 0 || kind == 8) {
                ends("handler of " + kind, r, 0, 0, 9, 1, 1, 8, 2);
            } else {
                ends("handler of " + kind, r, 0, 0, 9, 3, 0, 8, 1);
            }
        }
        PathRunner any = with(LOAD, 0, NEW, 0, LOAD, 1, GET, 0, RETURN, 0);
        any.handler(0, 0, 40, 4, 0);
        ends("kind 3", any, -1, 0, 9, 1, 4, 3, 3);
        ends("kind 4", any, 6, 0, 9, 1, 4, 4, 3);
        ends("kind 2", any, 1, 1, 9, 1, 4, 2, 5);
    }

    static void handlersFromTheFirstOn() {
        says("The HANDLERS of the method at hand are looked at, from the first on");
        PathRunner r = with(THROW, 8, THROW, 9, THROW, 10, THROW, 11, THROW, 12);
        r.handler(0, 0, 1, 1, 7);
        r.handler(0, 0, 1, 2, 0);
        r.handler(0, 0, 1, 3, 8);
        r.handler(0, 0, 40, 4, 0);
        ends("the second's target", r, 0, 0, 1, 4, 2, 0, 1);
        ends("thrown there: the fourth's", r, 0, 0, 2, 4, 4, 0, 2);
    }

    static void handlerOfTheMethodAtHand() {
        says("The HANDLERS of the method at hand");
        PathRunner r = withCalled(0, new int[] {THROW, 8, RETURN, 0}, CALL, 1, RETURN, 0, PUSH, 44, RETURN, 0);
        r.handler(0, 0, 40, 2, 0);
        r.handler(1, 0, 40, 1, 0);
        ends("that of the call is first", r, 0, 0, 99, 1, 1, 8, 4);
    }

    static void handlerEmptiesTheStack() {
        says("the STACK is empty but for the kind, as a word");
        PathRunner full = with();
        repeat(full, 0, 12, LOAD, 0);
        code(full, 0, THROW, 7);
        repeat(full, 0, 11, PUSH, 0);
        code(full, 0, GOTO, 26, POP, 0, THROW, 9);
        full.handler(0, 12, 13, 13, 0);
        ends("11 more have room", full, 5, 0, 99, 3, 26, 9, 26);
        PathRunner over = with();
        repeat(over, 0, 12, LOAD, 0);
        code(over, 0, THROW, 7);
        repeat(over, 0, 12, PUSH, 0);
        over.handler(0, 12, 13, 13, 0);
        ends("not 12", over, 5, 0, 99, 5, 24, 0, 25);
        PathRunner one = with(LOAD, 0, THROW, 7, POP, 0, POP, 0);
        one.handler(0, 1, 2, 2, 0);
        ends("nothing below it", one, 5, 0, 99, 5, 3, 0, 4);
        PathRunner none = with(THROW, 7, POP, 0, THROW, 9);
        none.handler(0, 0, 1, 1, 0);
        ends("an empty stack has it too", none, 5, 0, 99, 3, 2, 9, 3);
        PathRunner word = with(THROW, 12, PUSH, 1, ADD, 0, RETURN, 0);
        word.handler(0, 0, 1, 1, 0);
        ends("a word", word, 5, 0, 99, 1, 3, 13, 4);
    }

    static void handlerAtTheBound() {
        says("LEFT: as many operations as the BOUND were done, and one more would be (the TARGET)");
        PathRunner r = with(THROW, 8, RETURN, 0);
        r.handler(0, 0, 1, 1, 0);
        ends("bound 1", r, 0, 0, 1, 4, 1, 0, 1);
        ends("bound 2", r, 0, 0, 2, 1, 1, 8, 2);
        ends("thrown by the last one of the bound", with(PUSH, 0, THROW, 8), 0, 0, 2, 3, 1, 8, 2);
    }

    static void handlerWithNoTarget() {
        says("its TARGET goes on (where no operation is: BROKEN)");
        PathRunner r = with(THROW, 8);
        r.handler(0, 0, 1, 39, 0);
        ends("target 39", r, 0, 0, 99, 5, 39, 0, 1);
        PathRunner next = with(THROW, 8);
        next.handler(0, 0, 1, 1, 0);
        ends("target behind the last one", next, 0, 0, 99, 5, 1, 0, 1);
        PathRunner first = with(THROW, 8);
        first.handler(0, 0, 1, 0, 0);
        ends("target 0, again and again", first, 0, 0, 99, 4, 0, 0, 99);
    }

    /** Methods 0 to 3 call one another, 3 throws kind 9; a handler of method m at its CALL. */
    private static PathRunner fourDeep(int handling, int from, int to) {
        PathRunner r = with(PUSH, 0, CALL, 1, RETURN, 0, RETURN, 0);
        for (int m = 1; m <= 3; m++) {
            r.method(0);
            code(r, m, PUSH, 0, m == 3 ? THROW : CALL, m == 3 ? 9 : m + 1, RETURN, 0, RETURN, 0);
        }
        r.handler(handling, from, to, 3, 9);
        return r;
    }

    static void thrownAtTheCallAndSoOn() {
        says("else the call ends, and it is thrown at the CALL, and so on");
        // 8 operations till it is thrown; the target's RETURN and those of the callers behind it.
        for (int m = 0; m <= 3; m++) {
            ends("handled by method " + m, fourDeep(m, 1, 2), 0, 0, 99, 1, m == 0 ? 3 : 2, 9, 9 + m);
            ends("the CALL of method " + m + " is TO", fourDeep(m, 0, 1), 0, 0, 99, 3, 301, 9, 8);
            ends("the CALL of method " + m + " is ahead of FROM", fourDeep(m, 2, 40), 0, 0, 99, 3, 301, 9, 8);
        }
    }

    static void throwKeepsLocals() {
        says("the STACK is empty but for the kind (the LOCALS stay)");
        PathRunner r = with(LOAD, 0, STORE, 5, THROW, 12, LOAD, 5, ADD, 0, RETURN, 0);
        r.handler(0, 2, 3, 3, 12);
        ends("local 5", r, 5, 0, 20, 1, 5, 17, 6);
    }

    // ---- outcomes

    static void brokenAheadOfThrows() {
        says("Of one operation BROKEN comes ahead of all");
        ends("DIV by 0", with(NOTHING, 0, PUSH, 0, DIV, 0), 0, 0, 9, 5, 2, 0, 3);
        ends("REM by 0", with(NOTHING, 0, PUSH, 0, REM, 0), 0, 0, 9, 5, 2, 0, 3);
        ends("GET of null", with(NOTHING, 0, NOTHING, 0, GET, 0), 0, 0, 9, 5, 2, 0, 3);
        ends("SET of null, index", with(NOTHING, 0, NOTHING, 0, PUSH, 0, SET, 0), 0, 0, 9, 5, 3, 0, 4);
        ends("SET of null, word", with(NOTHING, 0, PUSH, 0, NOTHING, 0, SET, 0), 0, 0, 9, 5, 3, 0, 4);
        ends("SET of an index that is not there", with(PUSH, 1, NEW, 0, PUSH, 1, NOTHING, 0, SET, 0),
                0, 0, 9, 5, 4, 0, 5);
        ends("LENGTH of a word", with(PUSH, 0, LENGTH, 0), 0, 0, 9, 5, 1, 0, 2);
    }

    static void brokenAheadOfTooDeep() {
        says("Of one operation BROKEN comes ahead of all (ahead of kind 6)");
        PathRunner few = with(CALL, 1, RETURN, 0);
        few.method(0);
        code(few, 1, CALL, 2);
        few.method(0);
        code(few, 2, CALL, 3);
        few.method(0);
        code(few, 3, CALL, 4);
        ends("a method that is not there", few, 0, 0, 99, 5, 300, 0, 4);
        few.method(1);
        ends("a method without operations", few, 0, 0, 99, 5, 300, 0, 4);
        code(few, 4, RETURN, 0);
        ends("too few values", few, 0, 0, 99, 5, 300, 0, 4);
        PathRunner full = with(CALL, 1, RETURN, 0);
        full.method(0);
        code(full, 1, CALL, 2);
        full.method(0);
        code(full, 2, CALL, 3);
        full.method(0);
        repeat(full, 3, 12, PUSH, 0);
        code(full, 3, CALL, 3);
        ends("a 13th value", full, 0, 0, 99, 5, 312, 0, 16);
    }

    static void brokenIsNotHandled() {
        says("BROKEN, STOPPED and LEFT are no THROWS");
        PathRunner broken = with(POP, 0, RETURN, 0);
        broken.handler(0, 0, 40, 1, 0);
        ends("BROKEN", broken, 0, 0, 9, 5, 0, 0, 1);
        PathRunner stopped = with(NATIVE, 1, RETURN, 0);
        stopped.handler(0, 0, 40, 1, 0);
        ends("STOPPED", stopped, 0, 0, 9, 6, 0, 0, 1);
    }

    static void returnedWordOrReference() {
        says("1 RETURNED (a word; of a reference: 2); the PLACE .. of 1, 2 the RETURN");
        ends("a word", with(LOAD, 0, RETURN, 0), 5, 0, 9, 1, 1, 5, 2);
        ends("null", with(NOTHING, 0, RETURN, 0), 5, 0, 9, 2, 1, 0, 2);
        ends("an array", with(PUSH, 0, NEW, 0, RETURN, 0), 5, 0, 9, 2, 2, 0, 3);
        ends("values below it are no matter", with(PUSH, 0, NOTHING, 0, LOAD, 0, RETURN, 0), 5, 0, 9, 1, 3, 5, 4);
        ends("none", with(RETURN, 0), 5, 0, 9, 5, 0, 0, 1);
        PathRunner r = withCalled(0, new int[] {NOTHING, 0, RETURN, 0}, CALL, 1, RETURN, 0);
        ends("the RETURN of the run", r, 5, 0, 9, 2, 1, 0, 4);
    }

    static void thrownPlace() {
        says("3 THROWN (nobody handles it; the PLACE is that of the operation that threw)");
        ends("thrown four deep", fourDeep(0, 5, 6), 0, 0, 99, 3, 301, 9, 8);
        PathRunner again = with(THROW, 7, POP, 0, THROW, 8);
        again.handler(0, 0, 1, 1, 7);
        ends("that of the second throw", again, 0, 0, 99, 3, 2, 8, 3);
    }

    static void leftAtTheBound() {
        says("4 LEFT (as many operations as the BOUND were done, and one more would be; the PLACE is that one's)");
        PathRunner r = with(LOAD, 0, LOAD, 1, ADD, 0, RETURN, 0);
        ends("bound 1", r, 5, 6, 1, 4, 1, 0, 1);
        ends("bound 3", r, 5, 6, 3, 4, 3, 0, 3);
        ends("bound 4", r, 5, 6, 4, 1, 3, 11, 4);
        ends("bound 200", with(GOTO, 0), 5, 6, 200, 4, 0, 0, 200);
        PathRunner called = withCalled(0, new int[] {PUSH, 1, RETURN, 0}, CALL, 1, RETURN, 0);
        ends("in a call", called, 5, 6, 1, 4, 100, 0, 1);
        ends("at its RETURN", called, 5, 6, 2, 4, 101, 0, 2);
        ends("behind the CALL", called, 5, 6, 3, 4, 1, 0, 3);
        ends("at the end", called, 5, 6, 4, 1, 1, 1, 4);
    }

    static void leftBeItOneOrNone() {
        says("and one more would be, be it one or none");
        PathRunner r = with(LOAD, 0);
        ends("none, at the bound", r, 5, 6, 1, 4, 1, 0, 1);
        ends("none, below the bound", r, 5, 6, 2, 5, 1, 0, 1);
        PathRunner far = with(GOTO, 39);
        ends("a jump to none, at the bound", far, 5, 6, 1, 4, 39, 0, 1);
        ends("a jump to none, below the bound", far, 5, 6, 2, 5, 39, 0, 1);
        r.search(0, 1, 0, 9);
        pathIs(r, 0, 4, 1, 0, 1, 0, 1024, 0);
        r.search(0, 2, 0, 9);
        pathIs(r, 0, 5, 1, 0, 1, 0, 1024, 0);
    }

    static void brokenTooFew() {
        says("5 BROKEN (too few .. values)");
        int[] ones = {STORE, POP, DUP, NEG, NULL, NEW, LENGTH, RETURN, NATIVE};
        for (int op : ones) {
            ends(op + " of none", with(op, 0), 0, 0, 9, 5, 0, 0, 1);
        }
        int[] twos = {SWAP, ADD, SUB, MUL, DIV, REM, AND, OR, XOR, SHL, SHR, LESS, SAME};
        for (int op : twos) {
            ends(op + " of one", with(PUSH, 1, op, 0), 0, 0, 9, 5, 1, 0, 2);
        }
        ends("GET of one", with(NOTHING, 0, GET, 0), 0, 0, 9, 5, 1, 0, 2);
        ends("SET of two", with(NOTHING, 0, PUSH, 0, SET, 0), 0, 0, 9, 5, 2, 0, 3);
    }

    static void brokenOtherSort() {
        says("5 BROKEN (a value of the other sort)");
        int[] ones = {NEG, NEW, NATIVE};
        for (int op : ones) {
            ends(op + " of a reference", with(NOTHING, 0, op, 0), 0, 0, 9, 5, 1, 0, 2);
        }
        int[] twos = {ADD, SUB, MUL, DIV, REM, AND, OR, XOR, SHL, SHR, LESS, SAME};
        for (int op : twos) {
            ends(op + ", the first", with(NOTHING, 0, PUSH, 1, op, 0), 0, 0, 9, 5, 2, 0, 3);
            ends(op + ", the second", with(PUSH, 1, NOTHING, 0, op, 0), 0, 0, 9, 5, 2, 0, 3);
        }
        ends("SAME of two references", with(NOTHING, 0, NOTHING, 0, SAME, 0), 0, 0, 9, 5, 2, 0, 3);
        ends("NULL", with(PUSH, 0, NULL, 0), 0, 0, 9, 5, 1, 0, 2);
        ends("LENGTH", with(PUSH, 0, LENGTH, 0), 0, 0, 9, 5, 1, 0, 2);
        ends("GET, array", with(PUSH, 0, PUSH, 0, GET, 0), 0, 0, 9, 5, 2, 0, 3);
        ends("GET, index", with(PUSH, 1, NEW, 0, NOTHING, 0, GET, 0), 0, 0, 9, 5, 3, 0, 4);
        ends("SET, array", with(PUSH, 0, PUSH, 0, PUSH, 0, SET, 0), 0, 0, 9, 5, 3, 0, 4);
        ends("SET, index", with(PUSH, 1, NEW, 0, NOTHING, 0, PUSH, 0, SET, 0), 0, 0, 9, 5, 4, 0, 5);
        ends("SET, word", with(PUSH, 1, NEW, 0, PUSH, 0, NOTHING, 0, SET, 0), 0, 0, 9, 5, 4, 0, 5);
    }

    static void eitherSort() {
        says("a value is a WORD, or a REFERENCE (where either is taken)");
        ends("DUP, SWAP, STORE, LOAD, POP", with(NOTHING, 0, DUP, 0, LOAD, 0, SWAP, 0, STORE, 5, POP, 0,
                POP, 0, LOAD, 5, RETURN, 0), 5, 0, 99, 2, 8, 0, 9);
        PathRunner r = withCalled(2, new int[] {LOAD, 0, NULL, 3, THROW, 7, LOAD, 1, RETURN, 0},
                NOTHING, 0, LOAD, 0, CALL, 1, RETURN, 0);
        ends("arguments of both sorts", r, 5, 0, 99, 1, 3, 5, 8);
    }

    static void brokenCall() {
        says("5 BROKEN (a call of a method without operations)");
        PathRunner r = with(CALL, 1, RETURN, 0);
        ends("a method that is not there", r, 0, 0, 9, 5, 0, 0, 1);
        r.method(0);
        ends("a method without operations", r, 0, 0, 9, 5, 0, 0, 1);
        code(r, 1, NOTHING, 0);
        ends("a method with one", r, 0, 0, 9, 5, 101, 0, 2);
    }

    static void runWithoutOperations() {
        says("an operation that is none behind the last one (of a run without operations)");
        PathRunner r = with();
        ends("none", r, 0, 0, 1, 5, 0, 0, 0);
        r.method(2);
        due("search", 1, r.search(1, 1, 3, 9));
        pathIs(r, 0, 5, 100, 0, 0, 0, 1024, 0);
        due("come to", 0, r.told(3));
    }

    static void placeOfTheLastOperation() {
        says("The PLACE is 100 times the method, and the operation");
        PathRunner r = new PathRunner(0);
        for (int i = 0; i < 6; i++) {
            r.method(2);
        }
        code(r, 5, LOAD, 0, LOAD, 1, GOTO, 39);
        repeat(r, 5, 36, THROW, 7);
        code(r, 5, LESS, 3);
        due("search", 2, r.search(5, 99, 1, 9));
        conditionsAre(r, 0, 539, 0);
        conditionsAre(r, 1, 539, 1);
        due("thrown", 503, r.path(0, 1));
        due("behind the last", 540, r.path(1, 1));
        due("plain", 540, r.plain(5, 1, 1, 99, 1));
        due("times", 1, r.times(5, 39));
        PathRunner first = with(RETURN, 0);
        ends("0", first, 0, 0, 9, 5, 0, 0, 1);
    }

    static void doneWhenComeTo() {
        says("An operation is done when it is come to, whatever comes of it.");
        due("THROWN", 1, with(THROW, 7).plain(0, 0, 0, 9, 3));
        due("BROKEN", 1, with(POP, 0).plain(0, 0, 0, 9, 3));
        due("STOPPED", 1, with(NATIVE, 1).plain(0, 0, 0, 9, 3));
        due("RETURNED", 2, with(LOAD, 0, RETURN, 0).plain(0, 0, 0, 9, 3));
        due("GOTO", 9, with(GOTO, 0).plain(0, 0, 0, 9, 3));
        due("none is not done", 1, with(PUSH, 0).plain(0, 0, 0, 9, 3));
        PathRunner big = with(LOAD, 0, DUP, 0, ADD, 0, GOTO, 1);
        big.search(0, 200, 0, 9);
        // 1, 3, 7, 15, 31 tokens; the fifth ADD would have 63: LOAD, five turns without the last GOTO.
        pathIs(big, 0, 7, 2, 0, 1 + 4 * 3 + 2, 0, 1024, 0);
        due("in times", 5, big.times(0, 2));
    }
}
