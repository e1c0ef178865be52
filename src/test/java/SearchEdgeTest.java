import java.util.ArrayList;
import java.util.List;

/**
 * 'Terms', what inputs, formulas, splits, ways and a search are: for each sentence that names a
 * boundary, a test of its own. The answers were worked out by hand.
 */
public final class SearchEdgeTest extends Cases {
    public static void main(String[] args) throws IllegalAccessException {
        runAll(SearchEdgeTest.class);
    }

    // ---- inputs

    static void inputsAre1024() {
        says("1024 pairs, ordered by x, then by y");
        PathRunner r = with(LOAD, 0, RETURN, 0);
        r.search(0, 9, 0, 9);
        due("how many", 1024, r.path(0, 5));
        due("the first", 0, r.input(0, 0));
        due("y goes first", 1, r.input(0, 1));
        due("the last y", 31, r.input(0, 31));
        due("then x", 32, r.input(0, 32));
        due("the last", 1023, r.input(0, 1023));
        due("behind the last", NONE, r.input(0, 1024));
    }

    /** Of the two ways of a LESS: how many go the first one, and which is the least and the last of them. */
    private static void jumps(int[] below, int[] above, int many, int least, int last) {
        PathRunner r = with(below[0], below[1], above[0], above[1], LESS, 4, THROW, 7, THROW, 8);
        due("ways", many == 0 || many == 1024 ? 1 : 2, r.search(0, 9, 1, 9));
        due("the kind of the first", many == 0 ? 7 : 8, r.path(0, 2));
        due("its inputs", many == 0 ? 1024 : many, r.path(0, 5));
        due("the least", least, r.input(0, 0));
        due("the last", last, r.input(0, r.path(0, 5) - 1));
        due("agrees", true, r.agrees());
    }

    static void xIsFromMinus16To15() {
        says("The INPUTS are x and y, each from -16 to 15 (x)");
        int[] x = {LOAD, 0};
        jumps(x, new int[] {PUSH, -16}, 0, 0, 1023);
        jumps(x, new int[] {PUSH, -15}, 32, 0, 31);
        jumps(x, new int[] {PUSH, 15}, 31 * 32, 0, 31 * 32 - 1);
        jumps(x, new int[] {PUSH, 16}, 1024, 0, 1023);
        jumps(new int[] {PUSH, 15}, x, 0, 0, 1023);
        jumps(new int[] {PUSH, 14}, x, 32, 31 * 32, 1023);
    }

    static void yIsFromMinus16To15() {
        says("The INPUTS are x and y, each from -16 to 15 (y)");
        int[] y = {LOAD, 1};
        jumps(y, new int[] {PUSH, -16}, 0, 0, 1023);
        jumps(y, new int[] {PUSH, -15}, 32, 0, 31 * 32);
        jumps(y, new int[] {PUSH, 15}, 31 * 32, 0, 1022);
        jumps(y, new int[] {PUSH, 16}, 1024, 0, 1023);
        jumps(new int[] {PUSH, 15}, y, 0, 0, 1023);
        jumps(new int[] {PUSH, 14}, y, 32, 31, 1023);
    }

    // ---- formulas

    /** 31 tokens of x, and one more for each NEG. */
    private static PathRunner longFormula(int tokens) {
        PathRunner r = with(LOAD, 0, DUP, 0, ADD, 0, DUP, 0, ADD, 0, DUP, 0, ADD, 0, DUP, 0, ADD, 0);
        repeat(r, 0, tokens - 31, NEG, 0);
        return r;
    }

    static void bigOfTwo() {
        says("7 BIG: a word would have a FORMULA of more than 60 TOKENS (of two operands)");
        int[] ops = {ADD, SUB, MUL, AND, OR, XOR, SHL, SHR};
        for (int op : ops) {
            PathRunner most = longFormula(58);
            code(most, 0, LOAD, 1, op, 0, RETURN, 0);
            due("search", 1, most.search(0, 99, 1, 9));
            pathIs(most, 0, 1, 38, 0, 39, 0, 1024, 60);
            due("the last token", op, most.token(0, 59));
            due("no token behind it", NONE, most.token(0, 60));
            due("agrees", true, most.agrees());
            PathRunner over = longFormula(59);
            code(over, 0, LOAD, 1, op, 0, RETURN, 0);
            due("search", 1, over.search(0, 99, 1, 9));
            pathIs(over, 0, 7, 38, 0, 39, 0, 1024, 0);
            due("no token", NONE, over.token(0, 0));
            due("agrees", true, over.agrees());
        }
    }

    static void bigOfDivision() {
        says("7 BIG: a FORMULA of more than 60 TOKENS (of DIV, REM)");
        int[] ops = {DIV, REM};
        for (int op : ops) {
            PathRunner most = longFormula(58);
            code(most, 0, LOAD, 1, op, 0, RETURN, 0);
            due("search", 2, most.search(0, 99, 1, 9));
            pathIs(most, 0, 1, 38, 0, 39, 1, 992, 60);
            pathIs(most, 1, 3, 37, 1, 38, 1, 32, 0);
            PathRunner over = longFormula(59);
            code(over, 0, PUSH, 2, op, 0, RETURN, 0);
            due("search", 1, over.search(0, 99, 1, 9));
            pathIs(over, 0, 7, 38, 0, 39, 0, 1024, 0);
        }
    }

    static void bigOfOne() {
        says("7 BIG: a FORMULA of more than 60 TOKENS (of one operand)");
        int[] ops = {NEG, NATIVE};
        for (int op : ops) {
            PathRunner most = longFormula(59);
            code(most, 0, op, 0, RETURN, 0);
            due("search", 1, most.search(0, 99, 1, 9));
            pathIs(most, 0, 1, 38, 0, 39, 0, 1024, 60);
            PathRunner over = longFormula(60);
            code(over, 0, op, 0, RETURN, 0);
            due("search", 1, over.search(0, 99, 1, 9));
            pathIs(over, 0, 7, 38, 0, 39, 0, 1024, 0);
        }
    }

    static void bigTimesBig() {
        says("a FORMULA of more than 60 TOKENS (where both operands are long)");
        PathRunner r = longFormula(31);
        code(r, 0, DUP, 0, ADD, 0);
        due("63", 1, r.search(0, 99, 0, 9));
        pathIs(r, 0, 7, 10, 0, 11, 0, 1024, 0);
        // 15 tokens and the NEGs, 31 tokens, and the ADD
        for (int negs = 13; negs <= 14; negs++) {
            PathRunner two = with(LOAD, 0, DUP, 0, ADD, 0, DUP, 0, ADD, 0, DUP, 0, ADD, 0);
            repeat(two, 0, negs, NEG, 0);
            code(two, 0, LOAD, 1, DUP, 0, ADD, 0, DUP, 0, ADD, 0, DUP, 0, ADD, 0, DUP, 0, ADD, 0, ADD, 0, RETURN, 0);
            two.search(0, 99, 0, 9);
            due("60 and 61", negs == 13 ? 1 : 7, two.path(0, 0));
            due("60 and 61", negs == 13 ? 60 : 0, two.path(0, 6));
        }
    }

    static void bigIsNotInAPlainRun() {
        says("a plain run: its OUTCOME (7 can not be)");
        PathRunner r = longFormula(59);
        code(r, 0, LOAD, 1, ADD, 0, RETURN, 0);
        r.search(0, 99, 0, 9);
        due("BIG", 7, r.path(0, 0));
        ends("plain", r, 3, 5, 99, 1, 39, 48 + 5, 40);
        due("agrees", true, r.agrees());
    }

    static void numbersNeverGrow() {
        says("If all operands are numbers, it is the number that comes of them. (however often)");
        PathRunner r = with(PUSH, 3, DUP, 0, ADD, 0, NEG, 0, GOTO, 1);
        r.search(0, 200, 0, 9);
        pathIs(r, 0, 4, 4, 0, 200, 0, 1024, 0);
    }

    static void throwsAheadOfBig() {
        says("throws ahead of BIG");
        int[] ops = {DIV, REM};
        for (int op : ops) {
            PathRunner zero = longFormula(60);
            code(zero, 0, PUSH, 0, op, 0);
            due("by the number 0", 1, zero.search(0, 99, 1, 9));
            pathIs(zero, 0, 3, 39, 1, 40, 0, 1024, 0);
            PathRunner one = longFormula(60);
            code(one, 0, PUSH, 1, op, 0);
            due("by the number 1", 1, one.search(0, 99, 1, 9));
            pathIs(one, 0, 7, 39, 0, 40, 0, 1024, 0);
            PathRunner some = longFormula(60);
            code(some, 0, LOAD, 1, op, 0);
            due("by y", 2, some.search(0, 99, 1, 9));
            conditionsAre(some, 0, 39, 0);
            pathIs(some, 0, 7, 39, 0, 40, 1, 992, 0);
            conditionsAre(some, 1, 39, 1);
            pathIs(some, 1, 3, 39, 1, 40, 1, 32, 0);
        }
    }

    static void brokenAheadOfBig() {
        says("Of one operation BROKEN comes ahead of all (ahead of BIG)");
        PathRunner r = longFormula(60);
        code(r, 0, NOTHING, 0, ADD, 0);
        r.search(0, 99, 1, 9);
        pathIs(r, 0, 5, 39, 0, 40, 0, 1024, 0);
    }

    static void numbersAre1000AndC() {
        says("a number c: 1000 + c");
        int[] numbers = {-128, -1, 0, 1, 127};
        for (int c : numbers) {
            PathRunner r = with(PUSH, c, RETURN, 0);
            r.search(0, 9, 0, 9);
            tokensAre(r, 0, 1000 + c);
            due("its value", c, r.value(0, -16, 15));
            PathRunner second = with(LOAD, 0, PUSH, c, XOR, 0, RETURN, 0);
            second.search(0, 9, 0, 9);
            tokensAre(second, 0, 1, 1000 + c, 14);
            due("its value", c, second.value(0, 0, 15));
            PathRunner first = with(PUSH, c, LOAD, 1, XOR, 0, RETURN, 0);
            first.search(0, 9, 0, 9);
            tokensAre(first, 0, 1000 + c, 2, 14);
            due("its value", c, first.value(0, 15, 0));
        }
    }

    static void tokensOfEachOperation() {
        says("TOKENS, operands first: x: 1, y: 2; 6 to 16 of those OPERATIONS; 29 the absolute");
        for (int op = ADD; op <= SHR; op++) {
            if (op == NEG) {
                continue;
            }
            PathRunner r = with(LOAD, 0, LOAD, 1, op, 0, RETURN, 0);
            r.search(0, 9, 0, 9);
            tokensAre(r, 0, 1, 2, op);
        }
        PathRunner one = with(LOAD, 1, NEG, 0, NATIVE, 0, RETURN, 0);
        one.search(0, 9, 0, 9);
        tokensAre(one, 0, 2, 11, 29);
    }

    static void numbersAreWorkedOut() {
        says("If all operands are numbers, it is the number that comes of them.");
        int[][] rows = {{ADD, 9}, {SUB, 5}, {MUL, 14}, {DIV, 3}, {REM, 1}, {AND, 2}, {OR, 7}, {XOR, 5}, {SHL, 28},
            {SHR, 1}};
        for (int[] row : rows) {
            PathRunner r = with(PUSH, 7, PUSH, 2, row[0], 0, RETURN, 0);
            due("no split", 1, r.search(0, 9, 0, 9));
            tokensAre(r, 0, 1000 + row[1]);
        }
        PathRunner one = with(PUSH, 7, NEG, 0, RETURN, 0);
        one.search(0, 9, 0, 9);
        tokensAre(one, 0, 993);
        PathRunner absolute = with(PUSH, -7, NATIVE, 0, RETURN, 0);
        absolute.search(0, 9, 0, 9);
        tokensAre(absolute, 0, 1007);
        PathRunner length = with(LOAD, 0, NEW, 0, LENGTH, 0, PUSH, 1, ADD, 0, RETURN, 0);
        length.search(0, 9, 1, 9);
        tokensAre(length, 5, 1006);
        PathRunner kind = with(THROW, 12, PUSH, 1, ADD, 0, RETURN, 0);
        kind.handler(0, 0, 1, 1, 0);
        kind.search(0, 9, 1, 9);
        tokensAre(kind, 0, 1013);
    }

    static void nothingElseIsMadeSimpler() {
        says("Nothing else is made simpler.");
        int[][] rows = {{ADD, 0}, {SUB, 0}, {MUL, 0}, {MUL, 1}, {DIV, 1}, {REM, 1}, {AND, 0}, {OR, -1}, {XOR, 0},
            {SHL, 0}, {SHR, 8}};
        for (int[] row : rows) {
            PathRunner r = with(LOAD, 0, PUSH, row[1], row[0], 0, RETURN, 0);
            r.search(0, 9, 0, 9);
            tokensAre(r, 0, 1, 1000 + row[1], row[0]);
        }
        PathRunner itself = with(LOAD, 0, LOAD, 0, XOR, 0, RETURN, 0);
        itself.search(0, 9, 0, 9);
        tokensAre(itself, 0, 1, 1, 14);
        PathRunner twice = with(LOAD, 0, NEG, 0, NEG, 0, RETURN, 0);
        twice.search(0, 9, 0, 9);
        tokensAre(twice, 0, 1, 11, 11);
        PathRunner numbers = with(LOAD, 0, PUSH, 1, ADD, 0, PUSH, 2, ADD, 0, RETURN, 0);
        numbers.search(0, 9, 0, 9);
        tokensAre(numbers, 0, 1, 1001, 6, 1002, 6);
    }

    // ---- splits

    static void splitWhereAFormulaIsNoNumber() {
        says("if the FORMULA is no number (of LESS, SAME: one of the two is none)");
        int[] compare = {LESS, SAME};
        for (int op : compare) {
            due("two numbers", 0, conditionsOf(PUSH, 1, PUSH, 1, op, 4, THROW, 7, THROW, 8));
            due("the first is none", 1, conditionsOf(LOAD, 0, PUSH, 1, op, 4, THROW, 7, THROW, 8));
            due("the second is none", 1, conditionsOf(PUSH, 1, LOAD, 0, op, 4, THROW, 7, THROW, 8));
            due("both are none", 1, conditionsOf(LOAD, 0, LOAD, 1, op, 4, THROW, 7, THROW, 8));
        }
        int[] divide = {DIV, REM};
        for (int op : divide) {
            due("two numbers", 0, conditionsOf(PUSH, 1, PUSH, 1, op, 0, RETURN, 0));
            due("by a number", 0, conditionsOf(LOAD, 0, PUSH, 1, op, 0, RETURN, 0));
            due("by the number 0", 0, conditionsOf(LOAD, 0, PUSH, 0, op, 0, RETURN, 0));
            due("by a formula", 1, conditionsOf(PUSH, 1, LOAD, 1, op, 0, RETURN, 0));
        }
        due("NEW of a number", 0, conditionsOf(PUSH, 2, NEW, 0, RETURN, 0));
        due("NEW of a formula", 1, conditionsOf(LOAD, 0, NEW, 0, RETURN, 0));
        due("GET at a number", 0, conditionsOf(PUSH, 2, NEW, 0, PUSH, 0, GET, 0, RETURN, 0));
        due("GET at a formula", 1, conditionsOf(PUSH, 2, NEW, 0, LOAD, 0, GET, 0, RETURN, 0));
        due("SET at a number", 0, conditionsOf(PUSH, 2, NEW, 0, PUSH, 0, LOAD, 0, SET, 0, THROW, 7));
        due("SET at a formula", 1, conditionsOf(PUSH, 2, NEW, 0, LOAD, 0, PUSH, 0, SET, 0, THROW, 7));
    }

    /** How many conditions the first path has. */
    private static int conditionsOf(int... pairs) {
        PathRunner r = with(pairs);
        r.search(0, 99, 1, 99);
        due("agrees", true, r.agrees());
        return r.path(0, 4);
    }

    static void noSplitWhereBroken() {
        says("A SPLIT is (where nothing is BROKEN, ..)");
        int[] ops = {LESS, SAME, DIV, REM};
        for (int op : ops) {
            PathRunner r = with(NOTHING, 0, LOAD, 0, op, 0);
            due("search", 1, r.search(0, 99, 1, 99));
            pathIs(r, 0, 5, 2, 0, 3, 0, 1024, 0);
            due("pruned", 0, r.told(2));
        }
        PathRunner get = with(PUSH, 0, LOAD, 0, GET, 0);
        due("GET", 1, get.search(0, 99, 1, 99));
        pathIs(get, 0, 5, 2, 0, 3, 0, 1024, 0);
        PathRunner set = with(PUSH, 1, NEW, 0, LOAD, 0, NOTHING, 0, SET, 0);
        due("SET of a reference", 1, set.search(0, 99, 1, 99));
        pathIs(set, 0, 5, 4, 0, 5, 0, 1024, 0);
        PathRunner nullSet = with(NOTHING, 0, LOAD, 0, NOTHING, 0, SET, 0);
        due("SET of a reference at null", 1, nullSet.search(0, 99, 1, 99));
        pathIs(nullSet, 0, 5, 3, 0, 4, 0, 1024, 0);
    }

    static void noSplitWhereNull() {
        says("A SPLIT is (where .. no array null)");
        PathRunner get = with(NOTHING, 0, LOAD, 0, GET, 0);
        due("GET", 1, get.search(0, 99, 1, 99));
        pathIs(get, 0, 3, 2, 5, 3, 0, 1024, 0);
        due("pruned", 0, get.told(2));
        PathRunner set = with(NOTHING, 0, LOAD, 0, LOAD, 1, SET, 0);
        due("SET", 1, set.search(0, 99, 1, 99));
        pathIs(set, 0, 3, 3, 5, 4, 0, 1024, 0);
        due("pruned", 0, set.told(2));
    }

    static void alternativesOfLessAndSame() {
        says("LESS, SAME (ALTERNATIVES 0 it jumps, 1 it does not)");
        PathRunner less = with(LOAD, 0, LOAD, 1, LESS, 4, THROW, 7, THROW, 8);
        due("LESS", 2, less.search(0, 99, 1, 99));
        conditionsAre(less, 0, 2, 0);
        pathIs(less, 0, 3, 4, 8, 4, 1, 496);
        conditionsAre(less, 1, 2, 1);
        pathIs(less, 1, 3, 3, 7, 4, 1, 528);
        due("the same is not less", 1, less.along(3, 3));
        PathRunner same = with(LOAD, 0, LOAD, 1, SAME, 4, THROW, 7, THROW, 8);
        due("SAME", 2, same.search(0, 99, 1, 99));
        pathIs(same, 0, 3, 4, 8, 4, 1, 32);
        pathIs(same, 1, 3, 3, 7, 4, 1, 992);
        due("the same", 0, same.along(-16, -16));
        due("one more", 1, same.along(-16, -15));
    }

    static void alternativesOfDivAndRem() {
        says("DIV, REM (of b: 0 it is not 0, 1 it is)");
        int[] ops = {DIV, REM};
        for (int op : ops) {
            PathRunner r = with(LOAD, 0, LOAD, 1, op, 0, RETURN, 0);
            due("search", 2, r.search(0, 99, 1, 99));
            conditionsAre(r, 0, 2, 0);
            pathIs(r, 0, 1, 3, 0, 4, 1, 992, 3);
            conditionsAre(r, 1, 2, 1);
            pathIs(r, 1, 3, 2, 1, 3, 1, 32, 0);
            due("y -1", 0, r.along(0, -1));
            due("y 0", 1, r.along(0, 0));
            due("y 1", 0, r.along(0, 1));
        }
    }

    static void alternativesOfGet() {
        says("GET, SET (of the index, with n the length: 0 .. n - 1 that index, n none of these) (GET)");
        for (int n = 0; n <= 5; n++) {
            PathRunner r = with(PUSH, n, NEW, 0, LOAD, 1, GET, 0, RETURN, 0);
            due("length " + n, n + 1, r.search(0, 99, 1, 99));
            for (int k = 0; k < n; k++) {
                conditionsAre(r, k, 3, k);
                pathIs(r, k, 1, 4, 0, 5, 1, 32, 1);
                due("that index", k, r.along(7, k));
            }
            conditionsAre(r, n, 3, n);
            pathIs(r, n, 3, 3, 2, 4, 1, 1024 - 32 * n, 0);
            due("one below", n, r.along(7, -1));
            due("one above", n, r.along(7, n));
            due("pruned", 0, r.told(2));
        }
    }

    static void alternativesOfSet() {
        says("GET, SET (of the index, with n the length: 0 .. n - 1 that index, n none of these) (SET)");
        for (int n = 0; n <= 5; n++) {
            PathRunner r = with(PUSH, n, NEW, 0, LOAD, 1, PUSH, 3, SET, 0, LOAD, 1, RETURN, 0);
            due("length " + n, n + 1, r.search(0, 99, 1, 99));
            for (int k = 0; k < n; k++) {
                conditionsAre(r, k, 4, k);
                pathIs(r, k, 1, 6, 0, 7, 1, 32, 1);
            }
            conditionsAre(r, n, 4, n);
            pathIs(r, n, 3, 4, 2, 5, 1, 1024 - 32 * n, 0);
        }
    }

    static void alternativesOfNew() {
        says("NEW (0 .. 5 that length, 6 below 0, 7 above 5)");
        PathRunner r = with(LOAD, 0, NEW, 0, LENGTH, 0, RETURN, 0);
        due("search", 8, r.search(0, 99, 1, 99));
        for (int k = 0; k <= 5; k++) {
            conditionsAre(r, k, 1, k);
            pathIs(r, k, 1, 3, 0, 4, 1, 32, 1);
            tokensAre(r, k, 1000 + k);
            due("that length", k, r.along(k, 0));
        }
        conditionsAre(r, 6, 1, 6);
        pathIs(r, 6, 3, 1, 3, 2, 1, 512, 0);
        conditionsAre(r, 7, 1, 7);
        pathIs(r, 7, 3, 1, 4, 2, 1, 320, 0);
        due("-1", 6, r.along(-1, 0));
        due("6", 7, r.along(6, 0));
    }

    static void throwsOfAlternativesAreHandled() {
        says("each does what its alternative is (a throw that is handled)");
        PathRunner r = with(LOAD, 0, LOAD, 1, DIV, 0, RETURN, 0);
        r.handler(0, 2, 3, 3, 1);
        due("DIV", 2, r.search(0, 99, 1, 99));
        pathIs(r, 1, 1, 3, 0, 4, 1, 32, 1);
        tokensAre(r, 1, 1001);
        PathRunner array = with(LOAD, 0, NEW, 0, LOAD, 1, GET, 0, RETURN, 0);
        array.handler(0, 1, 4, 4, 0);
        due("NEW, GET", 1 + 2 + 3 + 4 + 5 + 6 + 2, array.search(0, 99, 1, 100));
        tokensAre(array, array.along(-1, 0), 1003);
        tokensAre(array, array.along(6, 0), 1004);
        tokensAre(array, array.along(5, 5), 1002);
        tokensAre(array, array.along(5, 4), 1000);
        due("agrees", true, array.agrees());
    }

    static void fifthArraySplits() {
        says("NEW .. if the FORMULA is no number (of a fifth array too)");
        PathRunner r = with();
        for (int i = 0; i < 4; i++) {
            code(r, 0, PUSH, 5, NEW, 0);
        }
        code(r, 0, LOAD, 0, NEW, 0);
        due("search", 8, r.search(0, 99, 1, 99));
        for (int k = 0; k < 8; k++) {
            conditionsAre(r, k, 9, k);
            pathIs(r, k, 3, 9, k == 6 ? 3 : 4, 10, 1);
        }
        due("agrees", true, r.agrees());
    }

    static void allInputsAtFirst() {
        says("A WAY has the inputs that go along it, all at first");
        PathRunner r = with(THROW, 7);
        r.search(0, 9, 0, 9);
        pathIs(r, 0, 3, 0, 7, 1, 0, 1024);
        due("the least", 0, r.along(-16, -16));
        due("the last", 0, r.along(15, 15));
    }

    static void alternativesThatNoneTakes() {
        says("one for each alternative that some of its inputs take, in order; each alternative that none takes is PRUNED");
        // y AND 1 is 0 or 1.
        PathRunner r = with(LOAD, 1, PUSH, 1, AND, 0, NEW, 0, LENGTH, 0, RETURN, 0);
        due("two ways", 2, r.search(0, 99, 1, 99));
        conditionsAre(r, 0, 3, 0);
        conditionsAre(r, 1, 3, 1);
        due("pruned", 6, r.told(2));
        for (int k = 0; k < 6; k++) {
            due("place", 3, r.pruned(k, 0));
            due("alternative", 7 - k, r.pruned(k, 1));
        }
        PathRunner one = with(LOAD, 0, PUSH, 16, ADD, 0, PUSH, 1, ADD, 0, NEW, 0, RETURN, 0);
        // x + 17 is 1 to 32: no 0, none below 0
        due("1 .. 5 and above", 6, one.search(0, 99, 1, 99));
        conditionsAre(one, 0, 5, 1);
        conditionsAre(one, 5, 5, 7);
        due("pruned", 2, one.told(2));
        due("the latest", 6, one.pruned(0, 1));
        due("the first", 0, one.pruned(1, 1));
    }

    static void oneInputIsEnough() {
        says("that some of its inputs take (one is some)");
        // 32 (x + 16) + y goes round; so x is asked for, then y.
        PathRunner r = with(LOAD, 0, PUSH, -16, SAME, 4, THROW, 7, LOAD, 1, PUSH, 15, SAME, 8, THROW, 8, THROW, 9);
        due("search", 3, r.search(0, 99, 0, 99));
        pathIs(r, 0, 3, 8, 9, 7, 2, 1);
        due("that one", 31, r.input(0, 0));
        due("no other", NONE, r.input(0, 1));
        due("pruned", 0, r.told(2));
    }

    static void onlyOneAlternativeIsASplitToo() {
        says("A SPLIT is .. if the FORMULA is no number (where all its inputs take one)");
        PathRunner r = with(LOAD, 0, LOAD, 0, SAME, 4, THROW, 7, THROW, 8);
        due("search", 1, r.search(0, 99, 0, 99));
        conditionsAre(r, 0, 2, 0);
        pathIs(r, 0, 3, 4, 8, 4, 1, 1024);
        due("pruned", 1, r.told(2));
        due("its place", 2, r.pruned(0, 0));
        due("its alternative", 1, r.pruned(0, 1));
    }

    static void knownIndexKeepsItsFormula() {
        says("What follows for a word (an index that is known then) does not change its FORMULA.");
        PathRunner r = with(PUSH, 2, NEW, 0, LOAD, 0, GET, 0, POP, 0, LOAD, 0, PUSH, 3, ADD, 0, RETURN, 0);
        due("search", 3, r.search(0, 99, 1, 99));
        tokensAre(r, 0, 1, 1003, 6);
        tokensAre(r, 1, 1, 1003, 6);
        PathRunner again = with(PUSH, 2, NEW, 0, STORE, 5, LOAD, 5, LOAD, 0, GET, 0, POP, 0, LOAD, 5, LOAD, 0,
                GET, 0, RETURN, 0);
        due("search", 3, again.search(0, 99, 0, 99));
        conditionsAre(again, 0, 5, 0, 9, 0);
        conditionsAre(again, 1, 5, 1, 9, 1);
        conditionsAre(again, 2, 5, 2);
        due("pruned", 4, again.told(2));
        PathRunner length = with(LOAD, 0, NEW, 0, POP, 0, LOAD, 0, RETURN, 0);
        length.search(0, 99, 1, 99);
        tokensAre(length, 5, 1);
        PathRunner same = with(LOAD, 0, PUSH, 3, SAME, 4, THROW, 7, LOAD, 0, RETURN, 0);
        same.search(0, 99, 1, 99);
        tokensAre(same, 0, 1);
    }

    // ---- a search

    static void splitIsComeToOnce() {
        says("each does what its alternative is when it is taken out (a SPLIT once)");
        PathRunner r = with(LOAD, 0, LOAD, 1, DIV, 0, RETURN, 0);
        due("search", 1, r.search(0, 99, 0, 1));
        due("0 1 2, and 3", 4, r.told(3));
        due("one waits", 1, r.told(0));
        due("it has not ended", NONE, r.along(0, 0));
        due("more", 2, r.more(1));
        due("nothing more was come to", 4, r.told(3));
        pathIs(r, 1, 3, 2, 1, 3, 1, 32, 0);
    }

    static void boundBehindASplit() {
        says("LEFT: one more would be (behind a SPLIT)");
        PathRunner r = with(LOAD, 0, LOAD, 1, DIV, 0, RETURN, 0);
        due("bound 3", 2, r.search(0, 3, 0, 9));
        pathIs(r, 0, 4, 3, 0, 3, 1, 992, 0);
        pathIs(r, 1, 3, 2, 1, 3, 1, 32, 0);
        due("bound 2", 1, r.search(0, 2, 0, 9));
        pathIs(r, 0, 4, 2, 0, 2, 0, 1024, 0);
        due("bound 4", 2, r.search(0, 4, 0, 9));
        pathIs(r, 0, 1, 3, 0, 4, 1, 992, 3);
    }

    static void conditionsUpToTheBound() {
        says("A WAY's CONDITIONS: its SPLITS: place, alternative. (as many as a BOUND leaves room for)");
        PathRunner r = with(LOAD, 0, DUP, 0, LESS, 0);
        due("bound 200", 1, r.search(0, 200, 0, 9));
        // Never less than itself: behind the first SPLIT there is no operation.
        pathIs(r, 0, 5, 3, 0, 3, 1, 1024, 0);
        PathRunner loop = with(LOAD, 0, DUP, 0, SAME, 0);
        due("bound 200", 1, loop.search(0, 200, 0, 9));
        pathIs(loop, 0, 4, 2, 0, 200, 66, 1024, 0);
        due("the last condition", 0, loop.condition(0, 65, 1));
        due("none behind it", NONE, loop.condition(0, 66, 1));
    }

    static void splitsInCalls() {
        says("A SPLIT is at LESS .. (in calls, the first and the deepest)");
        // Method 3, four deep, asks whether x is below 3; the run asks for what comes back.
        PathRunner r = with(LOAD, 0, LOAD, 1, CALL, 1, PUSH, 0, LESS, 6, THROW, 7, LOAD, 0, RETURN, 0);
        r.method(2);
        code(r, 1, LOAD, 0, CALL, 2, RETURN, 0);
        r.method(1);
        code(r, 2, LOAD, 0, PUSH, 3, CALL, 3, RETURN, 0);
        r.method(2);
        code(r, 3, LOAD, 0, LOAD, 1, LESS, 5, PUSH, 9, RETURN, 0, LOAD, 0, RETURN, 0);
        for (int turn = 0; turn < 2; turn++) {
            for (int order = 0; order < 4; order++) {
                due("search", 3, r.search(0, 99, order, 99));
                int below = r.along(-1, 0);
                conditionsAre(r, below, 302, 0, 4, 0);
                pathIs(r, below, 1, 7, 0, 19, 2, 512, 1);
                int between = r.along(2, 0);
                conditionsAre(r, between, 302, 0, 4, 1);
                pathIs(r, between, 3, 5, 7, 18, 2, 96, 0);
                int above = r.along(3, 0);
                conditionsAre(r, above, 302, 1);
                pathIs(r, above, 3, 5, 7, 18, 1, 416, 0);
                due("agrees", true, r.agrees());
            }
        }
    }

    static void waysHaveTheirOwnLocalsAndArrays() {
        says("at a SPLIT there is one for each alternative (each with what the WAY had)");
        PathRunner r = with(PUSH, 2, NEW, 0, STORE, 5, LOAD, 0, PUSH, 0, LESS, 11, LOAD, 5, PUSH, 0, PUSH, 9,
                SET, 0, NOTHING, 0, LOAD, 5, PUSH, 0, GET, 0, RETURN, 0);
        for (int order = 0; order < 4; order++) {
            due("search", 2, r.search(0, 99, order, 99));
            tokensAre(r, r.along(-1, 0), 1000);
            tokensAre(r, r.along(0, 0), 1009);
        }
    }

    static void orderLastFirst() {
        says("ORDER 0: the one that came to the row last, but of one SPLIT the first alternative");
        PathRunner one = with(LOAD, 0, NEW, 0, RETURN, 0);
        due("one SPLIT", 8, one.search(0, 99, 0, 99));
        for (int k = 0; k < 8; k++) {
            conditionsAre(one, k, 1, k);
        }
        PathRunner two = with(LOAD, 0, PUSH, 0, LESS, 3, LOAD, 1, PUSH, 0, LESS, 6, THROW, 7);
        due("two SPLITS", 4, two.search(0, 99, 0, 99));
        conditionsAre(two, 0, 2, 0, 5, 0);
        conditionsAre(two, 1, 2, 0, 5, 1);
        conditionsAre(two, 2, 2, 1, 5, 0);
        conditionsAre(two, 3, 2, 1, 5, 1);
    }

    static void orderFirstFirst() {
        says("1: the one that stands first");
        PathRunner r = crossing();
        due("search", 4, r.search(0, 99, 1, 99));
        conditionsAre(r, 0, 2, 0, 10, 0);
        conditionsAre(r, 1, 2, 0, 10, 1);
        conditionsAre(r, 2, 2, 1, 5, 1);
        conditionsAre(r, 3, 2, 1, 5, 0, 10, 0);
    }

    static void orderScattered() {
        says("2: with n waiting, z becomes z * 1664525 + 1013904223 (z the SEED at first, wrapping), place (z >>> 8) % n");
        int[] seeds = {0, 1, -1, 99, -1234567, LOW, HIGH};
        for (int seed : seeds) {
            PathRunner r = new PathRunner(seed);
            r.method(2);
            code(r, 0, LOAD, 0, NEW, 0, RETURN, 0);
            for (int turn = 0; turn < 2; turn++) {
                // With one waiting it is taken too: z goes on once, ahead of the eight.
                long z = scatter(seed & 0xffffffffL);
                due("search", 5, r.search(0, 9, 2, 5));
                due("more goes on with z", 8, r.more(100));
                List<Integer> row = new ArrayList<>(List.of(0, 1, 2, 3, 4, 5, 6, 7));
                for (int k = 0; k < 8; k++) {
                    z = scatter(z);
                    int at = (int) ((z >> 8) % row.size());
                    due("seed " + seed + ", search " + turn + ", path " + k, row.remove(at), r.condition(k, 0, 1));
                }
            }
        }
    }

    private static long scatter(long z) {
        return z * 1664525L + 1013904223L & 0xffffffffL;
    }

    static void orderSeldomFirst() {
        says("3: the first one of those whose operation was come to the fewest times in this search");
        PathRunner r = with(LOAD, 0, PUSH, 1, SUB, 0, STORE, 0, LOAD, 0, PUSH, 0, LESS, 0,
                LOAD, 1, PUSH, 0, LESS, 11, NOTHING, 0, LOAD, 1, RETURN, 0);
        for (int turn = 0; turn < 2; turn++) {
            due("the loop waits at 6, which was come to twice", 1, r.search(0, 99, 3, 1));
            conditionsAre(r, 0, 6, 1, 9, 0);
            due("come to", 7 + 7 + 3 + 2, r.told(3));
            due("times of 6", 2, r.times(0, 6));
            due("times of 9", 1, r.times(0, 9));
            due("more", 2, r.more(1));
            conditionsAre(r, 1, 6, 1, 9, 1);
            due("come to", 7 + 7 + 3 + 2 + 3, r.told(3));
        }
    }

    static void orderSeldomFirstStandsAtTheSplit() {
        says("at which they stand (behind a SPLIT that one)");
        // Both stand at 2; the one that jumps would go to 0, which was come to, the other to 3, which was not.
        PathRunner r = with(LOAD, 0, PUSH, 0, LESS, 0, THROW, 7);
        due("search", 1, r.search(0, 99, 3, 1));
        due("the first alternative was taken first", 7, r.told(3));
        conditionsAre(r, 0, 2, 1);
    }

    static void orderSeldomFirstOfEqual() {
        says("the first one of those (come to equally often)");
        PathRunner r = crossing();
        due("search", 4, r.search(0, 99, 3, 99));
        conditionsAre(r, 0, 2, 0, 10, 0);
        conditionsAre(r, 1, 2, 0, 10, 1);
        conditionsAre(r, 2, 2, 1, 5, 1);
        conditionsAre(r, 3, 2, 1, 5, 0, 10, 0);
    }

    /**
     * Eight ways of x, of which seven become eight each and the last one n + 1: in order 1 the row has
     * 56 + n + 1 ways before the first one ends.
     */
    private static PathRunner wide(int n) {
        PathRunner r = with(LOAD, 0, NEW, 0, POP, 0, LOAD, 1, NEW, 0, RETURN, 0,
                STORE, 2, PUSH, n, NEW, 0, LOAD, 1, GET, 0, RETURN, 0);
        r.handler(0, 1, 2, 2, 3);
        r.handler(0, 1, 2, 6, 4);
        return r;
    }

    static void rowOf60() {
        says("The row has at most 60");
        PathRunner below = wide(2);
        due("59", 1, below.search(0, 99, 1, 1));
        due("wait", 58, below.told(0));
        due("lost", 0, below.told(1));
        PathRunner full = wide(3);
        due("60", 1, full.search(0, 99, 1, 1));
        due("wait", 59, full.told(0));
        due("lost", 0, full.told(1));
        due("all end", 60, full.more(100));
        due("each input goes along one", 59, full.along(15, 15));
        PathRunner over = wide(4);
        due("61", 1, over.search(0, 99, 1, 1));
        due("wait", 59, over.told(0));
        due("lost", 1, over.told(1));
        due("all but one end", 60, over.more(100));
    }

    static void lostFromTheLastOn() {
        says("what would be more is LOST, from the last one on");
        PathRunner one = wide(4);
        one.search(0, 99, 1, 100);
        conditionsAre(one, 56, 1, 7, 10, 0);
        conditionsAre(one, 59, 1, 7, 10, 3);
        due("index 3 is kept", 59, one.along(6, 3));
        due("none of these is lost", NONE, one.along(6, 4));
        due("none of these is lost", NONE, one.along(15, -16));
        due("a flip to it is told", (6 + 16) * 32, one.flip(59, 1));
        due("agrees", true, one.agrees());
        PathRunner two = wide(5);
        due("62", 60, two.search(0, 99, 1, 100));
        due("lost", 2, two.told(1));
        conditionsAre(two, 59, 1, 7, 10, 3);
        due("index 4 is lost", NONE, two.along(6, 4));
        due("none of these is lost", NONE, two.along(6, 5));
        due("lost is not pruned", 0, two.told(2));
        due("a new search has lost none", 1, two.search(0, 1, 1, 1));
        due("a new search has lost none", 0, two.told(1));
    }

    static void rowHasRoomAgain() {
        says("The row has at most 60 (when one is taken out, there is room)");
        PathRunner r = wide(5);
        due("order 0", 62, r.search(0, 99, 0, 100));
        due("none is lost", 0, r.told(1));
        due("none waits", 0, r.told(0));
        due("agrees", true, r.agrees());
    }

    static void rowFullWith100Paths() {
        says("The row has at most 60 (and 100 PATHS have ended)");
        // x AND 3, y AND 3, and so on with what is left of both, till a fifth array. The seed was looked
        // for, till the row was full at the last path; the counts are those of Model too.
        PathRunner r = new PathRunner(0);
        r.method(2);
        code(r, 0, LOAD, 0, PUSH, 3, AND, 0, NEW, 0, POP, 0, LOAD, 0, PUSH, 2, SHR, 0, LOAD, 1, STORE, 0,
                STORE, 1, GOTO, 0);
        due("search", 99, r.search(0, 200, 2, 99));
        due("the last", 100, r.more(1));
        due("the row was full", 59, r.told(0));
        due("some are lost", true, r.told(1) > 0);
        due("agrees", true, r.agrees());
        due("a path", true, r.path(99, 0) > 0);
        due("no path 100", NONE, r.path(100, 0));
    }

    static void pathsInTheOrderOfTheirEnds() {
        says("WAYS that end are PATHS 0, 1, .. in that order");
        // The first alternative goes on to another SPLIT, the second ends at once.
        PathRunner r = with(LOAD, 0, PUSH, 0, LESS, 4, THROW, 7, LOAD, 1, PUSH, 0, LESS, 7, THROW, 8);
        due("search", 3, r.search(0, 99, 1, 99));
        due("the second ends first", 7, r.path(0, 2));
        due("then the others", 8, r.path(1, 2));
        due("then the others", 8, r.path(2, 2));
        due("search", 3, r.search(0, 99, 0, 99));
        due("the first ends first", 8, r.path(0, 2));
        due("the second last", 7, r.path(2, 2));
    }

    static void firstToldOfState() {
        says("STATE nothing was searched; the first told (ahead of BAD and NONE)");
        PathRunner r = with(LOAD, 0, RETURN, 0);
        due("more", STATE, r.more(0));
        due("told", STATE, r.told(5));
        due("path", STATE, r.path(-1, 7));
        due("condition", STATE, r.condition(-1, -1, 2));
        due("token", STATE, r.token(-1, -1));
        due("value", STATE, r.value(-1, 16, 16));
        due("along", STATE, r.along(16, 16));
        due("input", STATE, r.input(-1, -1));
        due("flip", STATE, r.flip(-1, -1));
        due("pruned", STATE, r.pruned(-1, 2));
        due("times", STATE, r.times(6, 40));
    }

    static void firstToldOfBad() {
        says("BAD a number is outside; the first told (ahead of NONE and FULL)");
        PathRunner r = with(LOAD, 0, RETURN, 0);
        r.search(0, 9, 0, 9);
        due("path", BAD, r.path(1, 7));
        due("condition", BAD, r.condition(1, 0, 2));
        due("value", BAD, r.value(1, 16, 0));
        due("along", BAD, r.along(16, 0));
        due("pruned", BAD, r.pruned(0, 2));
        for (int i = 1; i < 6; i++) {
            r.method(0);
        }
        due("method", BAD, r.method(4));
        repeat(r, 0, 38, POP, 0);
        due("operation", BAD, r.operation(0, 30, 0));
        for (int i = 0; i < 4; i++) {
            r.handler(0, 0, 1, 0, 0);
        }
        due("handler", BAD, r.handler(0, 0, 0, 0, 0));
        due("method, full", FULL, r.method(3));
        due("operation, full", FULL, r.operation(0, 29, 0));
        due("handler, full", FULL, r.handler(0, 0, 1, 0, 0));
    }
}
