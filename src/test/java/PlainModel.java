import java.util.ArrayList;

/**
 * Plain runs once more, written in another way: a call is a call of Java, a throw is an exception
 * of Java, a word is an Integer and an array an int[].
 */
final class PlainModel {
    private static final Object NULL = new Object();

    private static final class Thrown extends RuntimeException {
        private static final long serialVersionUID = 1L;
        final int kind;
        final int place;

        Thrown(int kind, int place) {
            super(null, null, false, false);
            this.kind = kind;
            this.place = place;
        }
    }

    private static final class Ended extends RuntimeException {
        private static final long serialVersionUID = 1L;
        final int outcome;
        final int place;

        Ended(int outcome, int place) {
            super(null, null, false, false);
            this.outcome = outcome;
            this.place = place;
        }
    }

    private final Model code;
    private final int bound;
    private int arrays;
    private int lastReturn;
    int outcome;
    int place;
    int kindOrWord;
    int done;

    PlainModel(Model code, int method, int x, int y, int bound) {
        this.code = code;
        this.bound = bound;
        Object[] locals = new Object[6];
        locals[0] = x;
        locals[1] = y;
        try {
            Object result = call(method, locals, 1);
            outcome = result instanceof Integer ? 1 : 2;
            place = lastReturn;
            kindOrWord = result instanceof Integer ? (Integer) result : 0;
        } catch (Thrown thrown) {
            outcome = 3;
            place = thrown.place;
            kindOrWord = thrown.kind;
        } catch (Ended ended) {
            outcome = ended.outcome;
            place = ended.place;
        }
    }

    private Object call(int m, Object[] locals, int depth) {
        ArrayList<Object> stack = new ArrayList<>();
        int pc = 0;
        while (true) {
            int here = 100 * m + pc;
            if (done == bound) {
                throw new Ended(4, here);
            }
            if (pc >= code.methods.get(m).ops.size()) {
                throw new Ended(5, here);
            }
            done++;
            int op = code.methods.get(m).ops.get(pc)[0];
            int a = code.methods.get(m).ops.get(pc)[1];
            if (isBroken(stack, locals, op, a)) {
                throw new Ended(5, here);
            }
            if (op == 26) {
                lastReturn = here;
                return pop(stack);
            }
            try {
                pc = step(stack, locals, op, a, here, depth);
            } catch (Thrown thrown) {
                pc = code.target(m, pc, thrown.kind);
                if (pc < 0) {
                    throw thrown;
                }
                stack.clear();
                stack.add(thrown.kind);
            }
        }
    }

    private boolean isBroken(ArrayList<Object> stack, Object[] locals, int op, int a) {
        int size = stack.size();
        switch (op) {
            case 0: case 28: return size == 12;
            case 1: return size == 12 || locals[a] == null;
            case 2: case 3: case 26: return size == 0;
            case 4: return size == 0 || size == 12;
            case 5: return size < 2;
            case 6: case 7: case 8: case 9: case 10: case 12: case 13: case 14: case 15: case 16:
            case 18: case 19: return !ends(stack, "ww");
            case 11: case 21: return !ends(stack, "w");
            case 20: case 24: return !ends(stack, "r");
            case 22: return !ends(stack, "rw");
            case 23: return !ends(stack, "rww");
            case 25:
                return a >= code.methods.size() || code.methods.get(a).ops.isEmpty()
                        || size < code.methods.get(a).arguments
                        || size - code.methods.get(a).arguments == 12;
            case 29: return a == 0 && !ends(stack, "w");
            default: return false;
        }
    }

    private static boolean ends(ArrayList<Object> stack, String sorts) {
        int from = stack.size() - sorts.length();
        if (from < 0) {
            return false;
        }
        for (int i = 0; i < sorts.length(); i++) {
            if (stack.get(from + i) instanceof Integer != (sorts.charAt(i) == 'w')) {
                return false;
            }
        }
        return true;
    }

    private static Object pop(ArrayList<Object> stack) {
        return stack.remove(stack.size() - 1);
    }

    private static int popWord(ArrayList<Object> stack) {
        return (Integer) pop(stack);
    }

    private static int[] popArray(ArrayList<Object> stack, int here) {
        Object value = pop(stack);
        if (value == NULL) {
            throw new Thrown(5, here);
        }
        return (int[]) value;
    }

    /** Answers the operation that comes next. */
    private int step(ArrayList<Object> stack, Object[] locals, int op, int a, int here, int depth) {
        int next = here % 100 + 1;
        int b;
        int[] array;
        switch (op) {
            case 0: stack.add(a); return next;
            case 1: stack.add(locals[a]); return next;
            case 2: locals[a] = pop(stack); return next;
            case 3: pop(stack); return next;
            case 4: stack.add(stack.get(stack.size() - 1)); return next;
            case 5: stack.add(stack.size() - 1, pop(stack)); return next;
            case 11: stack.add((int) (byte) -popWord(stack)); return next;
            case 17: return a;
            case 18: b = popWord(stack); return popWord(stack) < b ? a : next;
            case 19: b = popWord(stack); return popWord(stack) == b ? a : next;
            case 20: return pop(stack) == NULL ? a : next;
            case 21:
                b = popWord(stack);
                if (b < 0) {
                    throw new Thrown(3, here);
                }
                if (b > 5 || arrays == 4) {
                    throw new Thrown(4, here);
                }
                arrays++;
                stack.add(new int[b]);
                return next;
            case 22:
                b = popWord(stack);
                array = popArray(stack, here);
                stack.add(array[index(array, b, here)]);
                return next;
            case 23:
                int word = popWord(stack);
                b = popWord(stack);
                array = popArray(stack, here);
                array[index(array, b, here)] = word;
                return next;
            case 24: stack.add(popArray(stack, here).length); return next;
            case 25:
                if (depth == 4) {
                    throw new Thrown(6, here);
                }
                Object[] passed = new Object[6];
                for (int i = code.methods.get(a).arguments - 1; i >= 0; i--) {
                    passed[i] = pop(stack);
                }
                stack.add(call(a, passed, depth + 1));
                return next;
            case 27: throw new Thrown(a, here);
            case 28: stack.add(NULL); return next;
            case 29:
                if (a != 0) {
                    throw new Ended(6, here);
                }
                b = popWord(stack);
                stack.add(b < 0 ? (int) (byte) -b : b);
                return next;
            default:
                b = popWord(stack);
                stack.add(Model.two(op, popWord(stack), divisor(op, b, here)));
                return next;
        }
    }

    private static int index(int[] array, int index, int here) {
        if (index < 0 || index >= array.length) {
            throw new Thrown(2, here);
        }
        return index;
    }

    private static int divisor(int op, int b, int here) {
        if (b == 0 && (op == 9 || op == 10)) {
            throw new Thrown(1, here);
        }
        return b;
    }
}
