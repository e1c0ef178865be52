import java.util.ArrayList;
import java.util.Arrays;
import java.util.BitSet;
import java.util.List;

/**
 * The document written a second time, as plainly as can be: every word is a list of tokens, every
 * way a copy, every set of inputs is made by working the formulas out. For tests alone.
 */
final class Model {
    private static final int NONE = -1, BAD = -2, STATE = -3, FULL = -4;

    static final class Method {
        final int arguments;
        final List<int[]> ops = new ArrayList<>();
        final List<int[]> handlers = new ArrayList<>();

        Method(int arguments) {
            this.arguments = arguments;
        }
    }

    /** A word has tokens; a reference has none: at is -1 for null, else the array's number. */
    private static final class Value {
        final List<Integer> tokens;
        final int at;

        Value(List<Integer> tokens, int at) {
            this.tokens = tokens;
            this.at = at;
        }

        boolean isNumber() {
            return tokens != null && tokens.size() == 1 && tokens.get(0) > 500;
        }
    }

    private static final class Frame {
        int method;
        int pc;
        Value[] locals = new Value[6];
        List<Value> stack = new ArrayList<>();

        Frame copy() {
            Frame other = new Frame();
            other.method = method;
            other.pc = pc;
            other.locals = locals.clone();
            other.stack = new ArrayList<>(stack);
            return other;
        }
    }

    private static final class Way {
        List<Frame> frames = new ArrayList<>();
        List<Value[]> arrays = new ArrayList<>();
        List<int[]> conditions = new ArrayList<>();
        List<BitSet> sets = new ArrayList<>();
        int done;
        int outcome;
        int place;
        int kind;
        Value returned;
        int pending = -1;
        int[] group;

        Frame top() {
            return frames.get(frames.size() - 1);
        }

        BitSet inputs() {
            return sets.get(sets.size() - 1);
        }

        int here() {
            return 100 * top().method + top().pc;
        }

        void end(int how) {
            outcome = how;
            place = here();
        }

        Way copy() {
            Way other = new Way();
            for (Frame frame : frames) {
                other.frames.add(frame.copy());
            }
            for (Value[] array : arrays) {
                other.arrays.add(array.clone());
            }
            other.conditions.addAll(conditions);
            other.sets.addAll(sets);
            other.done = done;
            return other;
        }
    }

    final List<Method> methods = new ArrayList<>();
    private final int seed;
    private boolean searched;
    private int begun;
    private int bound;
    private int order;
    private int z;
    private List<Way> row;
    private List<Way> paths;
    private List<int[]> pruned;
    private int lost;
    private int[][] times;

    Model(int seed) {
        this.seed = seed;
    }

    // ---- the face

    int method(int arguments) {
        if (arguments < 0 || arguments > 3) {
            return BAD;
        }
        if (methods.size() == 6) {
            return FULL;
        }
        methods.add(new Method(arguments));
        return methods.size() - 1;
    }

    int operation(int method, int op, int a) {
        int[] least = {-128, 0, 0};
        int[] most = {127, 5, 5};
        if (method < 0 || method >= methods.size() || op < 0 || op > 29) {
            return BAD;
        }
        int low = Integer.MIN_VALUE;
        int high = Integer.MAX_VALUE;
        if (op < 3) {
            low = least[op];
            high = most[op];
        } else if (op >= 17 && op <= 20) {
            low = 0;
            high = 39;
        } else if (op == 25) {
            low = 0;
            high = 5;
        } else if (op == 27) {
            low = 7;
            high = 12;
        } else if (op == 29) {
            low = 0;
            high = 3;
        }
        if (a < low || a > high) {
            return BAD;
        }
        List<int[]> ops = methods.get(method).ops;
        if (ops.size() == 40) {
            return FULL;
        }
        ops.add(new int[] {op, a});
        searched = false;
        return ops.size();
    }

    int handler(int method, int from, int to, int target, int kind) {
        if (method < 0 || method >= methods.size() || from < 0 || from > 40 || to < 0 || to > 40
                || from >= to || target < 0 || target > 39 || kind < 0 || kind > 12) {
            return BAD;
        }
        List<int[]> handlers = methods.get(method).handlers;
        if (handlers.size() == 4) {
            return FULL;
        }
        handlers.add(new int[] {from, to, target, kind});
        searched = false;
        return handlers.size();
    }

    int search(int method, int withBound, int withOrder, int many) {
        if (!begins(method) || withBound < 1 || withBound > 200 || withOrder < 0 || withOrder > 3
                || many < 1 || many > 100) {
            return BAD;
        }
        searched = true;
        begun = method;
        bound = withBound;
        order = withOrder;
        z = seed;
        row = new ArrayList<>();
        paths = new ArrayList<>();
        pruned = new ArrayList<>();
        lost = 0;
        times = new int[6][40];
        Way way = new Way();
        Frame frame = new Frame();
        frame.method = method;
        frame.locals[0] = new Value(List.of(1), 0);
        frame.locals[1] = new Value(List.of(2), 0);
        way.frames.add(frame);
        BitSet all = new BitSet();
        all.set(0, 1024);
        way.sets.add(all);
        row.add(way);
        return goOn(many);
    }

    int more(int many) {
        if (!searched) {
            return STATE;
        }
        return many < 1 ? BAD : goOn((int) Math.min(100L, (long) many + paths.size()));
    }

    int told(int what) {
        if (!searched) {
            return STATE;
        }
        int all = Arrays.stream(times).mapToInt(one -> Arrays.stream(one).sum()).sum();
        int[] answers = {row.size(), lost, pruned.size(), all, paths.size()};
        return what < 0 || what > 4 ? BAD : answers[what];
    }

    int path(int k, int what) {
        if (!searched) {
            return STATE;
        }
        if (what < 0 || what > 6) {
            return BAD;
        }
        if (k < 0 || k >= paths.size()) {
            return NONE;
        }
        Way way = paths.get(k);
        int[] answers = {way.outcome, way.place, way.kind, way.done, way.conditions.size(),
            way.inputs().cardinality(), way.outcome == 1 ? way.returned.tokens.size() : 0};
        return answers[what];
    }

    int condition(int k, int i, int what) {
        if (!searched) {
            return STATE;
        }
        if (what < 0 || what > 1) {
            return BAD;
        }
        return hasCondition(k, i) ? paths.get(k).conditions.get(i)[what] : NONE;
    }

    int token(int k, int i) {
        if (!searched) {
            return STATE;
        }
        if (!returnsWord(k) || i < 0 || i >= paths.get(k).returned.tokens.size()) {
            return NONE;
        }
        return paths.get(k).returned.tokens.get(i);
    }

    int value(int k, int x, int y) {
        if (!searched) {
            return STATE;
        }
        if (isOutside(x, y)) {
            return BAD;
        }
        if (!returnsWord(k)) {
            return NONE;
        }
        Integer word = work(paths.get(k).returned.tokens, x, y);
        return word == null ? FULL : word;
    }

    int along(int x, int y) {
        if (!searched) {
            return STATE;
        }
        if (isOutside(x, y)) {
            return BAD;
        }
        for (int k = 0; k < paths.size(); k++) {
            if (paths.get(k).inputs().get(32 * (x + 16) + y + 16)) {
                return k;
            }
        }
        return NONE;
    }

    int input(int k, int i) {
        if (!searched) {
            return STATE;
        }
        if (k < 0 || k >= paths.size() || i < 0 || i >= paths.get(k).inputs().cardinality()) {
            return NONE;
        }
        return paths.get(k).inputs().stream().toArray()[i];
    }

    int flip(int k, int i) {
        if (!searched) {
            return STATE;
        }
        if (!hasCondition(k, i)) {
            return NONE;
        }
        BitSet others = (BitSet) paths.get(k).sets.get(i).clone();
        others.andNot(paths.get(k).sets.get(i + 1));
        return others.nextSetBit(0);
    }

    int pruned(int k, int what) {
        if (!searched) {
            return STATE;
        }
        if (what < 0 || what > 1) {
            return BAD;
        }
        return k < 0 || k >= 30 || k >= pruned.size() ? NONE : pruned.get(pruned.size() - 1 - k)[what];
    }

    int times(int method, int operation) {
        if (!searched) {
            return STATE;
        }
        if (method < 0 || method >= methods.size() || operation < 0
                || operation >= methods.get(method).ops.size()) {
            return BAD;
        }
        return times[method][operation];
    }

    int plain(int method, int x, int y, int withBound, int what) {
        if (!begins(method) || x < -128 || x > 127 || y < -128 || y > 127 || withBound < 1
                || withBound > 200 || what < 0 || what > 3) {
            return BAD;
        }
        PlainModel run = new PlainModel(this, method, x, y, withBound);
        return new int[] {run.outcome, run.place, run.kindOrWord, run.done}[what];
    }

    boolean agrees() {
        if (!searched) {
            return false;
        }
        BitSet seen = new BitSet();
        for (Way way : paths) {
            if (seen.intersects(way.inputs())) {
                return false;
            }
            seen.or(way.inputs());
            for (int input = way.inputs().nextSetBit(0); input >= 0;
                    input = way.inputs().nextSetBit(input + 1)) {
                int x = input / 32 - 16;
                int y = input % 32 - 16;
                PlainModel run = new PlainModel(this, begun, x, y, bound);
                int come = way.outcome == 1 ? work(way.returned.tokens, x, y) : way.kind;
                if (way.outcome != 7 && (run.outcome != way.outcome || run.place != way.place
                        || run.done != way.done || run.kindOrWord != come)) {
                    return false;
                }
            }
        }
        return true;
    }

    // ---- what the face is made of

    private boolean begins(int method) {
        return method >= 0 && method < methods.size() && methods.get(method).arguments == 2;
    }

    private static boolean isOutside(int x, int y) {
        return x < -16 || x > 15 || y < -16 || y > 15;
    }

    private boolean hasCondition(int k, int i) {
        return k >= 0 && k < paths.size() && i >= 0 && i < paths.get(k).conditions.size();
    }

    private boolean returnsWord(int k) {
        return k >= 0 && k < paths.size() && paths.get(k).outcome == 1;
    }

    int target(int method, int pc, int kind) {
        for (int[] handler : methods.get(method).handlers) {
            if (handler[0] <= pc && pc < handler[1] && (handler[3] == 0 || handler[3] == kind)) {
                return handler[2];
            }
        }
        return -1;
    }

    static int two(int op, int a, int b) {
        int[] all = {a + b, a - b, a * b, b == 0 ? 0 : a / b, b == 0 ? 0 : a % b, 0,
            a & b, a | b, a ^ b, a << (b & 7), a >> (b & 7)};
        return (byte) all[op - 6];
    }

    /** Null: divided by 0. */
    private static Integer work(List<Integer> tokens, int x, int y) {
        ArrayList<Integer> stack = new ArrayList<>();
        for (int token : tokens) {
            if (token > 500) {
                stack.add(token - 1000);
            } else if (token < 3) {
                stack.add(token == 1 ? x : y);
            } else {
                int b = stack.remove(stack.size() - 1);
                if (token == 11 || token == 29) {
                    stack.add((int) (byte) (token == 11 || b < 0 ? -b : b));
                } else if (b == 0 && (token == 9 || token == 10)) {
                    return null;
                } else {
                    stack.add(two(token, stack.remove(stack.size() - 1), b));
                }
            }
        }
        return stack.get(0);
    }

    private int goOn(int many) {
        while (paths.size() < many && !row.isEmpty()) {
            Way way = row.remove(takes());
            if (way.pending >= 0) {
                int alternative = way.pending;
                way.pending = -1;
                decide(way, alternative);
            }
            boolean split = false;
            while (way.outcome == 0 && !split) {
                split = step(way);
            }
            if (!split) {
                paths.add(way);
            }
        }
        return paths.size();
    }

    private int takes() {
        if (order == 0) {
            int at = row.size() - 1;
            while (at > 0 && row.get(at - 1).group == row.get(at).group) {
                at--;
            }
            return at;
        }
        if (order == 2) {
            z = z * 1664525 + 1013904223;
            return (z >>> 8) % row.size();
        }
        int best = 0;
        for (int i = 0; order == 3 && i < row.size(); i++) {
            Frame one = row.get(i).top();
            Frame least = row.get(best).top();
            if (times[one.method][one.pc] < times[least.method][least.pc]) {
                best = i;
            }
        }
        return best;
    }

    /** Does one operation; true, if it was a SPLIT. */
    private boolean step(Way way) {
        Frame frame = way.top();
        Method method = methods.get(frame.method);
        if (way.done == bound) {
            way.end(4);
            return false;
        }
        if (frame.pc >= method.ops.size()) {
            way.end(5);
            return false;
        }
        way.done++;
        times[frame.method][frame.pc]++;
        int op = method.ops.get(frame.pc)[0];
        int a = method.ops.get(frame.pc)[1];
        String takes = takesOf(op, a);
        if (takes == null || !fits(frame, takes, op, a)) {
            way.end(5);
            return false;
        }
        Value array = op >= 22 && op <= 24 ? below(frame, takes.length() - 1) : null;
        if (array != null && array.at < 0) {
            raise(way, 5);
            return false;
        }
        int from = op == 18 || op == 19 || op == 23 ? 1 : 0;
        int to = op == 23 ? 1 : 0;
        if (op == 9 || op == 10 || op == 18 || op == 19 || op >= 21 && op <= 23) {
            Value left = below(frame, from);
            Value right = below(frame, to);
            int length = array == null ? 0 : way.arrays.get(array.at).length;
            if (!left.isNumber() || !right.isNumber()) {
                split(way, op, left, right, length);
                return true;
            }
            decide(way, alternative(op, left.tokens.get(0) - 1000, right.tokens.get(0) - 1000, length));
            return false;
        }
        other(way, op, a);
        return false;
    }

    private void split(Way way, int op, Value left, Value right, int length) {
        int count = op == 21 ? 8 : op >= 22 ? length + 1 : 2;
        int[] group = new int[0];
        for (int alternative = 0; alternative < count; alternative++) {
            BitSet set = new BitSet();
            for (int input = 0; input < 1024; input++) {
                int x = input / 32 - 16;
                int y = input % 32 - 16;
                if (way.inputs().get(input) && alternative(op, work(left.tokens, x, y),
                        work(right.tokens, x, y), length) == alternative) {
                    set.set(input);
                }
            }
            if (set.isEmpty()) {
                pruned.add(new int[] {way.here(), alternative});
            } else if (row.size() == 60) {
                lost++;
            } else {
                Way child = way.copy();
                child.conditions.add(new int[] {way.here(), alternative});
                child.sets.add(set);
                child.pending = alternative;
                child.group = group;
                row.add(child);
            }
        }
    }

    private static int alternative(int op, int a, int b, int length) {
        if (op == 18) {
            return a < b ? 0 : 1;
        }
        if (op == 19) {
            return a == b ? 0 : 1;
        }
        if (op == 9 || op == 10) {
            return b == 0 ? 1 : 0;
        }
        if (op == 21) {
            return b < 0 ? 6 : b > 5 ? 7 : b;
        }
        return b < 0 || b >= length ? length : b;
    }

    /** The sorts of what is taken, from below: w a word, r a reference, v either. Null: BROKEN. */
    private String takesOf(int op, int a) {
        if (op == 25) {
            boolean there = a < methods.size() && !methods.get(a).ops.isEmpty();
            return there ? "vvv".substring(0, methods.get(a).arguments) : null;
        }
        if (op == 29) {
            return a == 0 ? "w" : "";
        }
        String[] all = {"", "", "v", "v", "v", "vv", "ww", "ww", "ww", "ww", "ww", "w", "ww", "ww",
            "ww", "ww", "ww", "", "ww", "ww", "r", "w", "rw", "rww", "r", "", "v", "", "", ""};
        return all[op];
    }

    private boolean fits(Frame frame, String takes, int op, int a) {
        int size = frame.stack.size();
        if (size < takes.length() || op == 1 && frame.locals[a] == null) {
            return false;
        }
        for (int i = 0; i < takes.length(); i++) {
            boolean word = frame.stack.get(size - takes.length() + i).tokens != null;
            if (takes.charAt(i) != 'v' && word != (takes.charAt(i) == 'w')) {
                return false;
            }
        }
        boolean grows = op <= 1 || op == 4 || op == 28 || op == 25 && takes.isEmpty();
        return size < 12 || !grows;
    }

    private static Value below(Frame frame, int i) {
        return frame.stack.get(frame.stack.size() - 1 - i);
    }

    private static Value take(Frame frame) {
        return frame.stack.remove(frame.stack.size() - 1);
    }

    private static Value number(int word) {
        return new Value(List.of(1000 + word), 0);
    }

    private void decide(Way way, int alternative) {
        Frame frame = way.top();
        int[] op = methods.get(frame.method).ops.get(frame.pc);
        if (op[0] == 18 || op[0] == 19) {
            take(frame);
            take(frame);
            frame.pc = alternative == 0 ? op[1] : frame.pc + 1;
        } else if (op[0] == 9 || op[0] == 10) {
            if (alternative == 1) {
                raise(way, 1);
            } else {
                join(way, op[0]);
            }
        } else if (op[0] == 21) {
            if (alternative == 6) {
                raise(way, 3);
            } else if (alternative == 7 || way.arrays.size() == 4) {
                raise(way, 4);
            } else {
                Value[] made = new Value[alternative];
                Arrays.fill(made, number(0));
                way.arrays.add(made);
                take(frame);
                frame.stack.add(new Value(null, way.arrays.size() - 1));
                frame.pc++;
            }
        } else {
            Value[] array = way.arrays.get(below(frame, op[0] == 22 ? 1 : 2).at);
            if (alternative == array.length) {
                raise(way, 2);
                return;
            }
            Value top = take(frame);
            take(frame);
            if (op[0] == 22) {
                frame.stack.add(array[alternative]);
            } else {
                take(frame);
                array[alternative] = top;
            }
            frame.pc++;
        }
    }

    private void join(Way way, int op) {
        Frame frame = way.top();
        Value b = take(frame);
        boolean one = op == 11 || op == 29;
        Value a = one ? b : take(frame);
        List<Integer> tokens = new ArrayList<>(a.tokens);
        if (!one) {
            tokens.addAll(b.tokens);
        }
        tokens.add(op);
        if (a.isNumber() && b.isNumber()) {
            tokens = List.of(1000 + work(tokens, 0, 0));
        }
        if (tokens.size() > 60) {
            way.end(7);
            return;
        }
        frame.stack.add(new Value(tokens, 0));
        frame.pc++;
    }

    private void raise(Way way, int kind) {
        int place = way.here();
        while (true) {
            Frame frame = way.top();
            int target = target(frame.method, frame.pc, kind);
            if (target >= 0) {
                frame.stack.clear();
                frame.stack.add(number(kind));
                frame.pc = target;
                return;
            }
            if (way.frames.size() == 1) {
                way.end(3);
                way.place = place;
                way.kind = kind;
                return;
            }
            way.frames.remove(way.frames.size() - 1);
        }
    }

    private void other(Way way, int op, int a) {
        Frame frame = way.top();
        List<Value> stack = frame.stack;
        switch (op) {
            case 0: stack.add(number(a)); frame.pc++; break;
            case 1: stack.add(frame.locals[a]); frame.pc++; break;
            case 2: frame.locals[a] = take(frame); frame.pc++; break;
            case 3: take(frame); frame.pc++; break;
            case 4: stack.add(below(frame, 0)); frame.pc++; break;
            case 5: stack.add(stack.size() - 1, take(frame)); frame.pc++; break;
            case 17: frame.pc = a; break;
            case 20: frame.pc = take(frame).at < 0 ? a : frame.pc + 1; break;
            case 24: stack.add(number(way.arrays.get(take(frame).at).length)); frame.pc++; break;
            case 25: enter(way, a); break;
            case 26: leave(way); break;
            case 27: raise(way, a); break;
            case 28: stack.add(new Value(null, -1)); frame.pc++; break;
            default:
                if (op == 29 && a != 0) {
                    way.end(6);
                } else {
                    join(way, op);
                }
                break;
        }
    }

    private void enter(Way way, int method) {
        if (way.frames.size() == 4) {
            raise(way, 6);
            return;
        }
        Frame inner = new Frame();
        inner.method = method;
        for (int i = methods.get(method).arguments - 1; i >= 0; i--) {
            inner.locals[i] = take(way.top());
        }
        way.frames.add(inner);
    }

    private void leave(Way way) {
        Value value = take(way.top());
        if (way.frames.size() == 1) {
            way.end(value.tokens != null ? 1 : 2);
            way.returned = value;
            return;
        }
        way.frames.remove(way.frames.size() - 1);
        way.top().stack.add(value);
        way.top().pc++;
    }
}
