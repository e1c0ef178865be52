import java.util.Arrays;

/**
 * Runs of small methods with unknown inputs x and y. A search tries all ways that some input goes;
 * each keeps its conditions, the inputs that go along it, and its words as formulas of x and y.
 *
 * <p>A plain run is done by the same machine with two numbers in place of x and y: then every
 * formula is a number, and nothing is ever split.
 */
public final class PathRunner {
    public static final int NONE = -1, BAD = -2, STATE = -3, FULL = -4;

    private static final int PUSH = 0, LOAD = 1, STORE = 2, POP = 3, DUP = 4, SWAP = 5;
    private static final int ADD = 6, SUB = 7, MUL = 8, DIV = 9, REM = 10, NEG = 11;
    private static final int AND = 12, OR = 13, XOR = 14, SHL = 15, SHR = 16;
    private static final int GOTO = 17, LESS = 18, SAME = 19, NULL = 20;
    private static final int NEW = 21, GET = 22, SET = 23, LENGTH = 24;
    private static final int CALL = 25, RETURN = 26, THROW = 27, NOTHING = 28, NATIVE = 29;

    private static final int RETURNED = 1, RETURNED_REFERENCE = 2, THROWN = 3, LEFT = 4;
    private static final int BROKEN = 5, STOPPED = 6, BIG = 7;

    private static final int BY_ZERO = 1, NO_INDEX = 2, BELOW_ZERO = 3, TOO_LARGE = 4;
    private static final int NO_ARRAY = 5, TOO_DEEP = 6, MOST_KINDS = 12;

    // Order 1 needs no name: it takes the one that stands first.
    private static final int LAST_FIRST = 0, SCATTERED = 2, SELDOM_FIRST = 3;

    private static final int MOST_METHODS = 6, MOST_ARGUMENTS = 3;
    private static final int MOST_OPERATIONS = 40, MOST_HANDLERS = 4;
    private static final int LOCALS = 6, STACK = 12, FRAME = LOCALS + STACK, DEEPEST = 4;
    private static final int MOST_ARRAYS = 4, LONGEST = 5;
    private static final int MOST_TOKENS = 60, MOST_BOUND = 200;
    private static final int MOST_WAITING = 60, MOST_PATHS = 100, PRUNED_KEPT = 30;
    private static final int MOST_ALTERNATIVES = 8;
    private static final int SIDE = 32, INPUTS = SIDE * SIDE, LEAST = -16, GREATEST = 15;
    private static final int LEAST_WORD = -128, GREATEST_WORD = 127;

    private final Search hunt;
    private final Machine machine;
    private final Program program;
    private final Formulas formulas;
    private final Way plainWay = new Way();
    private final Tokens tokens = new Tokens();
    private final Inputs seen = new Inputs();
    private boolean searched;

    public PathRunner(int seed) {
        hunt = new Search(seed);
        machine = hunt.machine;
        program = machine.program;
        formulas = machine.formulas;
    }

    public int method(int arguments) {
        if (!within(arguments, 0, MOST_ARGUMENTS)) {
            return BAD;
        }
        return program.addMethod(arguments);
    }

    public int operation(int method, int op, int a) {
        if (!program.hasMethod(method) || !Program.fits(op, a)) {
            return BAD;
        }
        int count = program.addOperation(method, op, a);
        if (count != FULL) {
            searched = false;
        }
        return count;
    }

    public int handler(int method, int from, int to, int target, int kind) {
        if (!program.hasMethod(method) || !within(from, 0, MOST_OPERATIONS)
                || !within(to, 0, MOST_OPERATIONS) || from >= to
                || !within(target, 0, MOST_OPERATIONS - 1) || !within(kind, 0, MOST_KINDS)) {
            return BAD;
        }
        int count = program.addHandler(method, from, to, target, kind);
        if (count != FULL) {
            searched = false;
        }
        return count;
    }

    public int search(int method, int bound, int order, int many) {
        if (!program.canBegin(method) || !within(bound, 1, MOST_BOUND)
                || !within(order, LAST_FIRST, SELDOM_FIRST) || !within(many, 1, MOST_PATHS)) {
            return BAD;
        }
        hunt.begin(method, bound, order);
        searched = true;
        return hunt.goOn(many);
    }

    public int more(int many) {
        if (!searched) {
            return STATE;
        }
        if (many < 1) {
            return BAD;
        }
        int room = MOST_PATHS - hunt.pathCount;
        return hunt.goOn(hunt.pathCount + Math.min(many, room));
    }

    public int told(int what) {
        if (!searched) {
            return STATE;
        }
        switch (what) {
            case 0:
                return hunt.row.size;
            case 1:
                return hunt.lost;
            case 2:
                return hunt.pruned;
            case 3:
                return hunt.comeTo;
            case 4:
                return hunt.pathCount;
            default:
                return BAD;
        }
    }

    public int path(int k, int what) {
        if (!searched) {
            return STATE;
        }
        if (!within(what, 0, 6)) {
            return BAD;
        }
        return hunt.hasPath(k) ? factOf(hunt.pathAt(k), what) : NONE;
    }

    private int factOf(Way way, int what) {
        switch (what) {
            case 0:
                return way.outcome;
            case 1:
                return way.endPlace;
            case 2:
                return way.kind;
            case 3:
                return way.done;
            case 4:
                return way.conditionCount;
            case 5:
                return way.inputs.size();
            default:
                return way.outcome == RETURNED ? formulas.sizeOf(way.returned) : 0;
        }
    }

    public int condition(int k, int i, int what) {
        if (!searched) {
            return STATE;
        }
        if (!within(what, 0, 1)) {
            return BAD;
        }
        if (!hunt.hasPath(k) || !hunt.pathAt(k).hasCondition(i)) {
            return NONE;
        }
        Way way = hunt.pathAt(k);
        return what == 0 ? way.conditionPlace(i) : way.conditionAlternative(i);
    }

    public int token(int k, int i) {
        if (!searched) {
            return STATE;
        }
        if (!hunt.hasPath(k) || hunt.pathAt(k).outcome != RETURNED) {
            return NONE;
        }
        tokens.write(formulas, hunt.pathAt(k).returned);
        return within(i, 0, tokens.length - 1) ? tokens.at(i) : NONE;
    }

    public int value(int k, int x, int y) {
        if (!searched) {
            return STATE;
        }
        if (!isInput(x, y)) {
            return BAD;
        }
        if (!hunt.hasPath(k) || hunt.pathAt(k).outcome != RETURNED) {
            return NONE;
        }
        tokens.write(formulas, hunt.pathAt(k).returned);
        int word = tokens.wordFor(x, y);
        return word == Tokens.DIVIDED_BY_ZERO ? FULL : word;
    }

    public int along(int x, int y) {
        if (!searched) {
            return STATE;
        }
        if (!isInput(x, y)) {
            return BAD;
        }
        int wanted = Inputs.numberOf(x, y);
        for (int k = 0; k < hunt.pathCount; k++) {
            if (hunt.pathAt(k).inputs.has(wanted)) {
                return k;
            }
        }
        return NONE;
    }

    public int input(int k, int i) {
        if (!searched) {
            return STATE;
        }
        return hunt.hasPath(k) ? hunt.pathAt(k).inputs.inOrder(i) : NONE;
    }

    public int flip(int k, int i) {
        if (!searched) {
            return STATE;
        }
        if (!hunt.hasPath(k) || !hunt.pathAt(k).hasCondition(i)) {
            return NONE;
        }
        return hunt.pathAt(k).conditionFlip(i);
    }

    public int pruned(int k, int what) {
        if (!searched) {
            return STATE;
        }
        if (!within(what, 0, 1)) {
            return BAD;
        }
        if (k < 0 || k >= Math.min(hunt.pruned, PRUNED_KEPT)) {
            return NONE;
        }
        return what == 0 ? hunt.prunedPlace(k) : hunt.prunedAlternative(k);
    }

    public int times(int method, int operation) {
        if (!searched) {
            return STATE;
        }
        if (!program.hasMethod(method) || !program.hasOperation(method, operation)) {
            return BAD;
        }
        return hunt.times[Program.slot(method, operation)];
    }

    public int plain(int method, int x, int y, int bound, int what) {
        if (!program.canBegin(method) || !within(x, LEAST_WORD, GREATEST_WORD)
                || !within(y, LEAST_WORD, GREATEST_WORD) || !within(bound, 1, MOST_BOUND)
                || !within(what, 0, 3)) {
            return BAD;
        }
        machine.runPlain(plainWay, method, x, y, bound);
        switch (what) {
            case 0:
                return plainWay.outcome;
            case 1:
                return plainWay.endPlace;
            case 2:
                return plainWay.outcome == RETURNED
                        ? Formulas.numberIn(plainWay.returned) : plainWay.kind;
            default:
                return plainWay.done;
        }
    }

    public boolean agrees() {
        if (!searched) {
            return false;
        }
        seen.clear();
        for (int k = 0; k < hunt.pathCount; k++) {
            Way way = hunt.pathAt(k);
            if (way.outcome == RETURNED) {
                tokens.write(formulas, way.returned);
            }
            for (int input = 0; input < INPUTS; input++) {
                if (way.inputs.has(input)) {
                    if (seen.has(input) || !inputHolds(way, input)) {
                        return false;
                    }
                    seen.add(input);
                }
            }
        }
        return true;
    }

    /** The tokens are those of the way's formula, if it returned a word. */
    private boolean inputHolds(Way way, int input) {
        if (way.outcome == BIG) {
            return true;
        }
        int x = Inputs.xOf(input);
        int y = Inputs.yOf(input);
        machine.runPlain(plainWay, hunt.method, x, y, hunt.bound);
        if (plainWay.outcome != way.outcome || plainWay.endPlace != way.endPlace
                || plainWay.kind != way.kind || plainWay.done != way.done) {
            return false;
        }
        return way.outcome != RETURNED
                || Formulas.numberIn(plainWay.returned) == tokens.wordFor(x, y);
    }

    private static boolean isInput(int x, int y) {
        return within(x, LEAST, GREATEST) && within(y, LEAST, GREATEST);
    }

    private static boolean within(int number, int least, int greatest) {
        return number >= least && number <= greatest;
    }

    /** The methods, their operations and their handlers. */
    private static final class Program {
        private int methods;
        private final int[] arguments = new int[MOST_METHODS];
        private final int[] lengths = new int[MOST_METHODS];
        private final int[] ops = new int[MOST_METHODS * MOST_OPERATIONS];
        private final int[] numbers = new int[MOST_METHODS * MOST_OPERATIONS];
        private final int[] handlers = new int[MOST_METHODS];
        private final int[] froms = new int[MOST_METHODS * MOST_HANDLERS];
        private final int[] tos = new int[MOST_METHODS * MOST_HANDLERS];
        private final int[] targets = new int[MOST_METHODS * MOST_HANDLERS];
        private final int[] kinds = new int[MOST_METHODS * MOST_HANDLERS];

        static int slot(int method, int operation) {
            return method * MOST_OPERATIONS + operation;
        }

        /** Whether there is such an operation, and the number is one that it takes. */
        static boolean fits(int op, int number) {
            switch (op) {
                case PUSH:
                    return within(number, LEAST_WORD, GREATEST_WORD);
                case LOAD:
                case STORE:
                    return within(number, 0, LOCALS - 1);
                case GOTO:
                case LESS:
                case SAME:
                case NULL:
                    return within(number, 0, MOST_OPERATIONS - 1);
                case CALL:
                    return within(number, 0, MOST_METHODS - 1);
                case THROW:
                    return within(number, TOO_DEEP + 1, MOST_KINDS);
                case NATIVE:
                    return within(number, 0, 3);
                default:
                    return within(op, PUSH, NATIVE);
            }
        }

        int addMethod(int argumentCount) {
            if (methods >= MOST_METHODS) {
                return FULL;
            }
            arguments[methods] = argumentCount;
            methods++;
            return methods - 1;
        }

        int addOperation(int method, int op, int number) {
            int length = lengths[method];
            if (length >= MOST_OPERATIONS) {
                return FULL;
            }
            ops[slot(method, length)] = op;
            numbers[slot(method, length)] = number;
            lengths[method] = length + 1;
            return length + 1;
        }

        int addHandler(int method, int from, int to, int target, int kind) {
            int count = handlers[method];
            if (count >= MOST_HANDLERS) {
                return FULL;
            }
            int at = method * MOST_HANDLERS + count;
            froms[at] = from;
            tos[at] = to;
            targets[at] = target;
            kinds[at] = kind;
            handlers[method] = count + 1;
            return count + 1;
        }

        boolean hasMethod(int method) {
            return method >= 0 && method < methods;
        }

        boolean hasOperation(int method, int operation) {
            return operation >= 0 && operation < lengths[method];
        }

        boolean canBegin(int method) {
            return hasMethod(method) && arguments[method] == 2;
        }

        boolean canBeCalled(int method) {
            return hasMethod(method) && lengths[method] > 0;
        }

        int argumentsOf(int method) {
            return arguments[method];
        }

        int opAt(int slot) {
            return ops[slot];
        }

        int numberAt(int slot) {
            return numbers[slot];
        }

        /** The target of the first handler for a kind thrown at an operation, or NONE. */
        int handlerTarget(int method, int operation, int kind) {
            int first = method * MOST_HANDLERS;
            for (int at = first; at < first + handlers[method]; at++) {
                boolean ofKind = kinds[at] == 0 || kinds[at] == kind;
                if (ofKind && operation >= froms[at] && operation < tos[at]) {
                    return targets[at];
                }
            }
            return NONE;
        }
    }

    /** Words of 8 bits with sign. */
    private static final class Words {
        static int ofOne(int op, int a) {
            return op == NEG || a < 0 ? (byte) -a : a;
        }

        /** A divisor of 0 is for the caller to look at first. */
        static int ofTwo(int op, int a, int b) {
            switch (op) {
                case ADD:
                    return (byte) (a + b);
                case SUB:
                    return (byte) (a - b);
                case MUL:
                    return (byte) (a * b);
                case DIV:
                    return b == 0 ? 0 : (byte) (a / b);
                case REM:
                    return b == 0 ? 0 : (byte) (a % b);
                case AND:
                    return a & b;
                case OR:
                    return a | b;
                case XOR:
                    return a ^ b;
                case SHL:
                    return (byte) (a << (b & 7));
                default:
                    return a >> (b & 7);
            }
        }
    }

    /**
     * All formulas of a search, which share their parts. A formula is named by a number: the 256
     * words first, then x and y, then those that were made.
     */
    private static final class Formulas {
        static final int TOO_BIG = -1;
        static final int X = 256, Y = 257;
        private static final int FIRST_MADE = 258;
        // Every operation of a search lies on a way to a path or to one that waits, and makes one at most.
        private static final int MOST = FIRST_MADE + (MOST_PATHS + MOST_WAITING) * MOST_BOUND;
        private static final int NO_PART = -1;

        private final int[] ops = new int[MOST];
        private final int[] lefts = new int[MOST];
        private final int[] rights = new int[MOST];
        private final int[] sizes = new int[MOST];
        private int used = FIRST_MADE;

        static int number(int word) {
            return word - LEAST_WORD;
        }

        static boolean isNumber(int formula) {
            return formula >= 0 && formula < X;
        }

        static int numberIn(int formula) {
            return formula + LEAST_WORD;
        }

        void forget() {
            used = FIRST_MADE;
        }

        int sizeOf(int formula) {
            return formula >= FIRST_MADE && formula < used ? sizes[formula] : 1;
        }

        int leftOf(int formula) {
            return isMade(formula) ? lefts[formula] : NO_PART;
        }

        int rightOf(int formula) {
            return isMade(formula) ? rights[formula] : NO_PART;
        }

        int lastTokenOf(int formula) {
            if (isMade(formula)) {
                return ops[formula];
            }
            if (isNumber(formula)) {
                return Tokens.ZERO + numberIn(formula);
            }
            return formula == X ? Tokens.X : Tokens.Y;
        }

        int ofOne(int op, int a) {
            if (isNumber(a)) {
                return number(Words.ofOne(op, numberIn(a)));
            }
            return make(op, a, NO_PART, sizeOf(a) + 1);
        }

        int ofTwo(int op, int a, int b) {
            if (isNumber(a) && isNumber(b)) {
                return number(Words.ofTwo(op, numberIn(a), numberIn(b)));
            }
            return make(op, a, b, sizeOf(a) + sizeOf(b) + 1);
        }

        private boolean isMade(int formula) {
            return formula >= FIRST_MADE && formula < used;
        }

        private int make(int op, int a, int b, int size) {
            if (size > MOST_TOKENS || used >= MOST) {
                return TOO_BIG;
            }
            ops[used] = op;
            lefts[used] = a;
            rights[used] = b;
            sizes[used] = size;
            used++;
            return used - 1;
        }
    }

    /** One formula written out, operands first. */
    private static final class Tokens {
        static final int X = 1, Y = 2, ZERO = 1000;
        static final int DIVIDED_BY_ZERO = 1000;
        private static final int LEAST_NUMBER = ZERO + LEAST_WORD;

        private final int[] row = new int[MOST_TOKENS];
        private final int[] open = new int[MOST_TOKENS + 1];
        private final int[] stack = new int[MOST_TOKENS];
        private int length;

        int at(int i) {
            return row[i];
        }

        /** From the last token back: behind an operation's own token comes its right part. */
        void write(Formulas formulas, int formula) {
            length = Math.min(formulas.sizeOf(formula), MOST_TOKENS);
            int count = 1;
            open[0] = formula;
            for (int i = length - 1; i >= 0 && count > 0; i--) {
                count--;
                int part = open[count];
                row[i] = formulas.lastTokenOf(part);
                count = leaveOpen(formulas.leftOf(part), count);
                count = leaveOpen(formulas.rightOf(part), count);
            }
        }

        private int leaveOpen(int part, int count) {
            if (part < 0 || count >= open.length) {
                return count;
            }
            open[count] = part;
            return count + 1;
        }

        int wordFor(int x, int y) {
            int height = 0;
            for (int i = 0; i < length; i++) {
                int token = row[i];
                if (token >= LEAST_NUMBER) {
                    stack[height++] = token - ZERO;
                } else if (token == X || token == Y) {
                    stack[height++] = token == X ? x : y;
                } else if (isOfOne(token) && height >= 1) {
                    stack[height - 1] = Words.ofOne(token, stack[height - 1]);
                } else if (height >= 2) {
                    height--;
                    int b = stack[height];
                    if (b == 0 && (token == DIV || token == REM)) {
                        return DIVIDED_BY_ZERO;
                    }
                    stack[height - 1] = Words.ofTwo(token, stack[height - 1], b);
                }
            }
            return stack[0];
        }

        private static boolean isOfOne(int token) {
            return token == NEG || token == NATIVE;
        }
    }

    /** A set of inputs; an input's number tells its place in their order. */
    private static final class Inputs {
        private final int[] rows = new int[SIDE];

        static int numberOf(int x, int y) {
            return SIDE * (x - LEAST) + y - LEAST;
        }

        static int xOf(int input) {
            return input / SIDE + LEAST;
        }

        static int yOf(int input) {
            return input % SIDE + LEAST;
        }

        void clear() {
            Arrays.fill(rows, 0);
        }

        void addAll() {
            Arrays.fill(rows, -1);
        }

        void add(int input) {
            rows[input / SIDE] |= 1 << (input % SIDE);
        }

        void copy(Inputs other) {
            System.arraycopy(other.rows, 0, rows, 0, SIDE);
        }

        boolean has(int input) {
            return (rows[input / SIDE] >>> (input % SIDE) & 1) == 1;
        }

        int size() {
            int count = 0;
            for (int x = 0; x < SIDE; x++) {
                count += Integer.bitCount(rows[x]);
            }
            return count;
        }

        int inOrder(int i) {
            int before = 0;
            for (int input = 0; input < INPUTS; input++) {
                if (has(input)) {
                    if (before == i) {
                        return input;
                    }
                    before++;
                }
            }
            return NONE;
        }
    }

    /**
     * A run as far as it has come. A value of it is a formula's number, or below 0: null, an
     * array, or nothing.
     */
    private static final class Way {
        static final int NO_REFERENCE = -1, FIRST_ARRAY = -2, EMPTY = -100;
        static final int NO_ALTERNATIVE = -1;

        private final int[] methods = new int[DEEPEST];
        private final int[] places = new int[DEEPEST];
        private final int[] heights = new int[DEEPEST];
        private final int[] values = new int[DEEPEST * FRAME];
        private int top;
        private final int[] lengths = new int[MOST_ARRAYS];
        private final int[] elements = new int[MOST_ARRAYS * LONGEST];
        private int arrays;
        private final int[] conditions = new int[MOST_BOUND];
        private int conditionCount;
        private final Inputs inputs = new Inputs();
        private int done;
        private int outcome;
        private int endPlace;
        private int kind;
        private int returned;
        private int alternative;
        private int splitNumber;

        void begin(int method, int x, int y) {
            top = 0;
            openFrame(method);
            values[0] = x;
            values[1] = y;
            arrays = 0;
            conditionCount = 0;
            inputs.addAll();
            done = 0;
            outcome = 0;
            endPlace = 0;
            kind = 0;
            returned = 0;
            alternative = NO_ALTERNATIVE;
            splitNumber = 0;
        }

        /** All but the inputs, and what only a way that ended has. */
        void copyRun(Way other) {
            System.arraycopy(other.methods, 0, methods, 0, DEEPEST);
            System.arraycopy(other.places, 0, places, 0, DEEPEST);
            System.arraycopy(other.heights, 0, heights, 0, DEEPEST);
            System.arraycopy(other.values, 0, values, 0, (other.top + 1) * FRAME);
            top = other.top;
            System.arraycopy(other.lengths, 0, lengths, 0, MOST_ARRAYS);
            System.arraycopy(other.elements, 0, elements, 0, MOST_ARRAYS * LONGEST);
            arrays = other.arrays;
            System.arraycopy(other.conditions, 0, conditions, 0, other.conditionCount);
            conditionCount = other.conditionCount;
            done = other.done;
            outcome = 0;
            endPlace = 0;
            kind = 0;
            returned = 0;
        }

        int methodNow() {
            return methods[top];
        }

        int operationNow() {
            return places[top];
        }

        int placeNow() {
            return 100 * methods[top] + places[top];
        }

        int slotNow() {
            return methods[top] * MOST_OPERATIONS + places[top];
        }

        int height() {
            return heights[top];
        }

        int localAt(int i) {
            return values[top * FRAME + i];
        }

        void keepLocal(int i, int value) {
            values[top * FRAME + i] = value;
        }

        /** The value so far below the top one; EMPTY if there is none. */
        int peek(int below) {
            int at = heights[top] - 1 - below;
            return at < 0 ? EMPTY : values[top * FRAME + LOCALS + at];
        }

        void drop(int count) {
            heights[top] = heights[top] > count ? heights[top] - count : 0;
        }

        void push(int value) {
            if (heights[top] < STACK) {
                values[top * FRAME + LOCALS + heights[top]] = value;
                heights[top]++;
            }
        }

        /** In place of so many values comes one, and the next operation is at hand. */
        void finish(int takes, int value) {
            drop(takes);
            push(value);
            places[top]++;
        }

        void next() {
            places[top]++;
        }

        void jump(int operation) {
            places[top] = operation;
        }

        boolean isDeepest() {
            return top >= DEEPEST - 1;
        }

        void enter(int method, int arguments) {
            int from = top * FRAME + LOCALS + heights[top] - arguments;
            drop(arguments);
            top++;
            openFrame(method);
            System.arraycopy(values, from, values, top * FRAME, arguments);
        }

        /** Back at the CALL; false, if there is none. */
        boolean leave() {
            if (top == 0) {
                return false;
            }
            top--;
            return true;
        }

        private void openFrame(int method) {
            methods[top] = method;
            places[top] = 0;
            heights[top] = 0;
            for (int i = 0; i < LOCALS; i++) {
                values[top * FRAME + i] = EMPTY;
            }
        }

        int addArray(int length) {
            lengths[arrays] = length;
            int first = arrays * LONGEST;
            for (int i = 0; i < length; i++) {
                elements[first + i] = Formulas.number(0);
            }
            arrays++;
            return FIRST_ARRAY - (arrays - 1);
        }

        boolean hasAllArrays() {
            return arrays >= MOST_ARRAYS;
        }

        int lengthOf(int array) {
            return array <= FIRST_ARRAY && array > EMPTY ? lengths[FIRST_ARRAY - array] : 0;
        }

        int elementOf(int array, int index) {
            return elements[(FIRST_ARRAY - array) * LONGEST + index];
        }

        void keepElement(int array, int index, int word) {
            elements[(FIRST_ARRAY - array) * LONGEST + index] = word;
        }

        void end(int how, int where) {
            outcome = how;
            endPlace = where;
        }

        boolean hasEnded() {
            return outcome != 0;
        }

        /** The flip is the least input that takes another alternative, or NONE. */
        void addCondition(int place, int taken, int flip) {
            if (conditionCount < MOST_BOUND) {
                conditions[conditionCount] = ((flip + 1) * MOST_ALTERNATIVES + taken) * 1000 + place;
                conditionCount++;
            }
        }

        boolean hasCondition(int i) {
            return i >= 0 && i < conditionCount;
        }

        int conditionPlace(int i) {
            return conditions[i] % 1000;
        }

        int conditionAlternative(int i) {
            return conditions[i] / 1000 % MOST_ALTERNATIVES;
        }

        int conditionFlip(int i) {
            return conditions[i] / 1000 / MOST_ALTERNATIVES - 1;
        }
    }

    /** What the operations do to a way. */
    private static final class Machine {
        // How many values an operation takes and leaves; those of CALL depend on the method.
        private static final int[] TAKES = {
            0, 0, 1, 1, 1, 2, 2, 2, 2, 2, 2, 1, 2, 2, 2, 2, 2, 0, 2, 2, 1, 1, 2, 3, 1, 0, 1, 0, 0, 1};
        private static final int[] LEAVES = {
            1, 1, 0, 0, 2, 2, 1, 1, 1, 1, 1, 1, 1, 1, 1, 1, 1, 0, 0, 0, 0, 1, 1, 0, 1, 0, 0, 0, 1, 1};

        private final Program program = new Program();
        private final Formulas formulas = new Formulas();

        void runPlain(Way way, int method, int x, int y, int bound) {
            way.begin(method, Formulas.number(x), Formulas.number(y));
            for (int i = 0; i <= MOST_BOUND && comesToOne(way, bound); i++) {
                stopsToSplit(way);
            }
        }

        /** Whether the way comes to an operation, which counts as done then; if not, it has ended. */
        boolean comesToOne(Way way, int bound) {
            if (way.hasEnded()) {
                return false;
            }
            if (way.done >= bound) {
                way.end(LEFT, way.placeNow());
                return false;
            }
            if (!program.hasOperation(way.methodNow(), way.operationNow())) {
                way.end(BROKEN, way.placeNow());
                return false;
            }
            way.done++;
            return true;
        }

        int opOf(Way way) {
            return program.opAt(way.slotNow());
        }

        private int numberOf(Way way) {
            return program.numberAt(way.slotNow());
        }

        /** Does the operation at hand, or tells that it is a SPLIT, and leaves the way as it is. */
        boolean stopsToSplit(Way way) {
            int op = opOf(way);
            int number = numberOf(way);
            if (isBroken(way, op, number)) {
                way.end(BROKEN, way.placeNow());
            } else if (needsArray(op) && arrayOf(way, op) == Way.NO_REFERENCE) {
                raise(way, NO_ARRAY);
            } else if (isDecided(op)) {
                int left = leftOf(way, op);
                int right = rightOf(way, op);
                if (!Formulas.isNumber(left) || !Formulas.isNumber(right)) {
                    return true;
                }
                int a = Formulas.numberIn(left);
                int b = Formulas.numberIn(right);
                act(way, op, choose(op, a, b, lengthAt(way, op)));
            } else if (op <= SWAP || op == NOTHING) {
                moveValues(way, op, number);
            } else if (op <= SHR) {
                compute(way, op);
            } else {
                goElsewhere(way, op, number);
            }
            return false;
        }

        private boolean isBroken(Way way, int op, int number) {
            if (op == NATIVE && number != 0) {
                return false;
            }
            int takes = TAKES[op];
            int leaves = LEAVES[op];
            if (op == CALL) {
                if (!program.canBeCalled(number)) {
                    return true;
                }
                takes = program.argumentsOf(number);
                leaves = 1;
            }
            if (way.height() < takes || way.height() - takes + leaves > STACK) {
                return true;
            }
            if (op == LOAD) {
                return way.localAt(number) == Way.EMPTY;
            }
            return !takesAnySort(op) && hasWrongSort(way, op, takes);
        }

        private static boolean takesAnySort(int op) {
            return op <= SWAP || op == CALL || op == RETURN;
        }

        private static boolean hasWrongSort(Way way, int op, int takes) {
            for (int below = 0; below < takes; below++) {
                boolean isReference = way.peek(below) < 0;
                boolean hasToBe = below == takes - 1 && (needsArray(op) || op == NULL);
                if (isReference != hasToBe) {
                    return true;
                }
            }
            return false;
        }

        private static boolean needsArray(int op) {
            return op == GET || op == SET || op == LENGTH;
        }

        private static int arrayOf(Way way, int op) {
            return needsArray(op) ? way.peek(TAKES[op] - 1) : Way.NO_REFERENCE;
        }

        /** The length of the array that a GET or SET is at; 0 of others. */
        static int lengthAt(Way way, int op) {
            return way.lengthOf(arrayOf(way, op));
        }

        private static boolean isDecided(int op) {
            return op == LESS || op == SAME || op == DIV || op == REM
                    || op == GET || op == SET || op == NEW;
        }

        private static boolean compares(int op) {
            return op == LESS || op == SAME;
        }

        /** The formula that decides the operation, or the first of the two. */
        static int leftOf(Way way, int op) {
            return way.peek(compares(op) || op == SET ? 1 : 0);
        }

        /** The second formula that decides the operation; a number, if there is but one. */
        static int rightOf(Way way, int op) {
            return compares(op) ? way.peek(0) : Formulas.number(0);
        }

        static int alternativesOf(int op, int length) {
            if (op == NEW) {
                return MOST_ALTERNATIVES;
            }
            return op == GET || op == SET ? length + 1 : 2;
        }

        static int choose(int op, int a, int b, int length) {
            switch (op) {
                case LESS:
                    return a < b ? 0 : 1;
                case SAME:
                    return a == b ? 0 : 1;
                case DIV:
                case REM:
                    return a != 0 ? 0 : 1;
                case NEW:
                    if (a < 0) {
                        return LONGEST + 1;
                    }
                    return a > LONGEST ? LONGEST + 2 : a;
                default:
                    return a >= 0 && a < length ? a : length;
            }
        }

        /** Does an operation that is decided, with the alternative that it takes. */
        void act(Way way, int op, int alternative) {
            switch (op) {
                case LESS:
                case SAME:
                    int target = alternative == 0 ? numberOf(way) : way.operationNow() + 1;
                    way.drop(2);
                    way.jump(target);
                    break;
                case DIV:
                case REM:
                    if (alternative == 0) {
                        compute(way, op);
                    } else {
                        raise(way, BY_ZERO);
                    }
                    break;
                case NEW:
                    makeArray(way, alternative);
                    break;
                default:
                    if (alternative < lengthAt(way, op)) {
                        useElement(way, op, alternative);
                    } else {
                        raise(way, NO_INDEX);
                    }
                    break;
            }
        }

        private void makeArray(Way way, int alternative) {
            if (alternative == LONGEST + 1) {
                raise(way, BELOW_ZERO);
            } else if (alternative > LONGEST || way.hasAllArrays()) {
                raise(way, TOO_LARGE);
            } else {
                way.finish(1, way.addArray(alternative));
            }
        }

        private static void useElement(Way way, int op, int index) {
            int array = arrayOf(way, op);
            if (op == GET) {
                way.finish(2, way.elementOf(array, index));
            } else {
                way.keepElement(array, index, way.peek(0));
                way.drop(3);
                way.next();
            }
        }

        private void compute(Way way, int op) {
            int takes = TAKES[op];
            int made = takes == 1 ? formulas.ofOne(op, way.peek(0))
                    : formulas.ofTwo(op, way.peek(1), way.peek(0));
            if (made == Formulas.TOO_BIG) {
                way.end(BIG, way.placeNow());
            } else {
                way.finish(takes, made);
            }
        }

        private static void moveValues(Way way, int op, int number) {
            int upper = way.peek(0);
            int lower = way.peek(1);
            way.drop(TAKES[op]);
            switch (op) {
                case PUSH:
                    way.push(Formulas.number(number));
                    break;
                case LOAD:
                    way.push(way.localAt(number));
                    break;
                case STORE:
                    way.keepLocal(number, upper);
                    break;
                case DUP:
                    way.push(upper);
                    way.push(upper);
                    break;
                case SWAP:
                    way.push(upper);
                    way.push(lower);
                    break;
                case NOTHING:
                    way.push(Way.NO_REFERENCE);
                    break;
                default:
                    break;
            }
            way.next();
        }

        private void goElsewhere(Way way, int op, int number) {
            switch (op) {
                case GOTO:
                    way.jump(number);
                    break;
                case NULL:
                    int target = way.peek(0) == Way.NO_REFERENCE ? number : way.operationNow() + 1;
                    way.drop(1);
                    way.jump(target);
                    break;
                case LENGTH:
                    way.finish(1, Formulas.number(way.lengthOf(way.peek(0))));
                    break;
                case CALL:
                    if (way.isDeepest()) {
                        raise(way, TOO_DEEP);
                    } else {
                        way.enter(number, program.argumentsOf(number));
                    }
                    break;
                case RETURN:
                    giveBack(way, way.peek(0));
                    break;
                case THROW:
                    raise(way, number);
                    break;
                default:
                    if (number == 0) {
                        compute(way, op);
                    } else {
                        way.end(STOPPED, way.placeNow());
                    }
                    break;
            }
        }

        private static void giveBack(Way way, int value) {
            int place = way.placeNow();
            if (way.leave()) {
                way.finish(0, value);
            } else {
                way.returned = value;
                way.end(value < 0 ? RETURNED_REFERENCE : RETURNED, place);
            }
        }

        private void raise(Way way, int kind) {
            int place = way.placeNow();
            for (int depth = 0; depth < DEEPEST; depth++) {
                int target = program.handlerTarget(way.methodNow(), way.operationNow(), kind);
                if (target != NONE) {
                    way.drop(STACK);
                    way.push(Formulas.number(kind));
                    way.jump(target);
                    return;
                }
                if (!way.leave()) {
                    way.kind = kind;
                    way.end(THROWN, place);
                    return;
                }
            }
        }
    }

    /** The ways that wait, by their numbers, and the order in which they are taken. */
    private static final class Row {
        private final int[] numbers = new int[MOST_WAITING];
        private int size;
        private int z;

        void begin(int seed) {
            size = 0;
            z = seed;
        }

        boolean isFull() {
            return size >= MOST_WAITING;
        }

        void add(int number) {
            if (size < MOST_WAITING) {
                numbers[size] = number;
                size++;
            }
        }

        /** Takes one out; NONE, if none waits. */
        int take(int order, Way[] ways, int[] times) {
            if (size <= 0) {
                return NONE;
            }
            int at = choosePlace(order, ways, times);
            int taken = numbers[at];
            size--;
            for (int i = at; i < size; i++) {
                numbers[i] = numbers[i + 1];
            }
            return taken;
        }

        private int choosePlace(int order, Way[] ways, int[] times) {
            switch (order) {
                case LAST_FIRST:
                    return firstOfLastSplit(ways);
                case SCATTERED:
                    z = z * 1664525 + 1013904223;
                    return size > 0 ? (z >>> 8) % size : 0;
                case SELDOM_FIRST:
                    return mostSeldom(ways, times);
                default:
                    return 0;
            }
        }

        private int firstOfLastSplit(Way[] ways) {
            int at = size - 1;
            int last = ways[numbers[at]].splitNumber;
            for (int i = size - 1; i >= 0 && ways[numbers[i]].splitNumber == last; i--) {
                at = i;
            }
            return at;
        }

        private int mostSeldom(Way[] ways, int[] times) {
            int best = 0;
            for (int i = 1; i < size; i++) {
                if (times[ways[numbers[i]].slotNow()] < times[ways[numbers[best]].slotNow()]) {
                    best = i;
                }
            }
            return best;
        }
    }

    /** A search: the ways that wait, the paths, and what is told of all of them. */
    private static final class Search {
        // Paths, those that wait, and the one that is taken out.
        private static final int MOST_WAYS = MOST_PATHS + MOST_WAITING + 1;
        // Far above the operations that a search can come to.
        private static final int MOST_TURNS = 1000000;

        private final Machine machine = new Machine();
        private final int seed;
        private final Way[] ways = new Way[MOST_WAYS];
        private final int[] spare = new int[MOST_WAYS];
        private int spareCount;
        private final Row row = new Row();
        private final int[] paths = new int[MOST_PATHS];
        private int pathCount;
        private final int[] times = new int[MOST_METHODS * MOST_OPERATIONS];
        private int comeTo;
        private int lost;
        private final int[] latestPruned = new int[PRUNED_KEPT];
        private int pruned;
        private final Sharing sharing = new Sharing();
        private int method;
        private int bound;
        private int order;
        private int splits;

        Search(int seed) {
            this.seed = seed;
            for (int i = 0; i < MOST_WAYS; i++) {
                ways[i] = new Way();
            }
        }

        void begin(int ofMethod, int withBound, int inOrder) {
            method = ofMethod;
            bound = withBound;
            order = inOrder;
            for (int i = 0; i < MOST_WAYS; i++) {
                spare[i] = i;
            }
            spareCount = MOST_WAYS;
            pathCount = 0;
            Arrays.fill(times, 0);
            comeTo = 0;
            lost = 0;
            pruned = 0;
            splits = 0;
            machine.formulas.forget();
            row.begin(seed);
            spareCount--;
            row.add(spare[spareCount]);
            ways[spare[spareCount]].begin(method, Formulas.X, Formulas.Y);
        }

        boolean hasPath(int k) {
            return k >= 0 && k < pathCount;
        }

        Way pathAt(int k) {
            return ways[paths[k]];
        }

        int prunedPlace(int k) {
            return latestPruned[(pruned - 1 - k) % PRUNED_KEPT] / MOST_ALTERNATIVES;
        }

        int prunedAlternative(int k) {
            return latestPruned[(pruned - 1 - k) % PRUNED_KEPT] % MOST_ALTERNATIVES;
        }

        /** Goes on till there are so many paths in all, at most MOST_PATHS. */
        int goOn(int target) {
            int wanted = Math.min(target, MOST_PATHS);
            for (int i = 0; i < MOST_TURNS && pathCount < wanted && row.size > 0; i++) {
                int taken = row.take(order, ways, times);
                Way way = ways[taken];
                if (way.alternative != Way.NO_ALTERNATIVE) {
                    machine.act(way, machine.opOf(way), way.alternative);
                    way.alternative = Way.NO_ALTERNATIVE;
                }
                if (goesToSplit(way)) {
                    split(way);
                    spare[spareCount] = taken;
                    spareCount++;
                } else {
                    paths[pathCount] = taken;
                    pathCount++;
                }
            }
            return pathCount;
        }

        private boolean goesToSplit(Way way) {
            for (int i = 0; i <= MOST_BOUND && machine.comesToOne(way, bound); i++) {
                times[way.slotNow()]++;
                comeTo++;
                if (machine.stopsToSplit(way)) {
                    return true;
                }
            }
            return false;
        }

        private void split(Way way) {
            int op = machine.opOf(way);
            int length = Machine.lengthAt(way, op);
            sharing.share(machine, way, op, length);
            splits++;
            int alternatives = Machine.alternativesOf(op, length);
            for (int i = 0; i < alternatives; i++) {
                if (sharing.isTaken(i)) {
                    addAlternative(way, i);
                } else {
                    latestPruned[pruned % PRUNED_KEPT] = way.placeNow() * MOST_ALTERNATIVES + i;
                    pruned++;
                }
            }
        }

        private void addAlternative(Way way, int alternative) {
            if (row.isFull() || spareCount <= 0) {
                lost++;
                return;
            }
            spareCount--;
            int number = spare[spareCount];
            Way child = ways[number];
            child.copyRun(way);
            child.inputs.copy(sharing.inputsOf(alternative));
            child.addCondition(way.placeNow(), alternative, sharing.leastOfOthers(alternative));
            child.alternative = alternative;
            child.splitNumber = splits;
            row.add(number);
        }
    }

    /** How the inputs of a way share the alternatives of a split. */
    private static final class Sharing {
        private final Inputs[] shares = new Inputs[MOST_ALTERNATIVES];
        private final int[] leasts = new int[MOST_ALTERNATIVES];
        private final Tokens left = new Tokens();
        private final Tokens right = new Tokens();

        Sharing() {
            for (int i = 0; i < MOST_ALTERNATIVES; i++) {
                shares[i] = new Inputs();
            }
        }

        void share(Machine machine, Way way, int op, int length) {
            left.write(machine.formulas, Machine.leftOf(way, op));
            right.write(machine.formulas, Machine.rightOf(way, op));
            Arrays.fill(leasts, NONE);
            for (int i = 0; i < MOST_ALTERNATIVES; i++) {
                shares[i].clear();
            }
            for (int input = 0; input < INPUTS; input++) {
                if (way.inputs.has(input)) {
                    int x = Inputs.xOf(input);
                    int y = Inputs.yOf(input);
                    int taken = Machine.choose(op, left.wordFor(x, y), right.wordFor(x, y), length);
                    shares[taken].add(input);
                    if (leasts[taken] == NONE) {
                        leasts[taken] = input;
                    }
                }
            }
        }

        boolean isTaken(int alternative) {
            return leasts[alternative] != NONE;
        }

        Inputs inputsOf(int alternative) {
            return shares[alternative];
        }

        int leastOfOthers(int alternative) {
            int least = NONE;
            for (int i = 0; i < MOST_ALTERNATIVES; i++) {
                if (i != alternative && leasts[i] != NONE && (least == NONE || leasts[i] < least)) {
                    least = leasts[i];
                }
            }
            return least;
        }
    }
}
