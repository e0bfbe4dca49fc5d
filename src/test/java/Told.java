import java.util.HashMap;
import java.util.Map;

/** Tells a program to a new object, by the names of the document. */
final class Told {
    final StepWalk x = new StepWalk();
    private final Map<Integer, Integer> sums = new HashMap<>();

    int number(long v) {
        return x.leaf(0, v);
    }

    int signal(int k) {
        return x.leaf(1, k);
    }

    int name(int k) {
        return x.leaf(2, k);
    }

    int second() {
        return x.leaf(3, 0);
    }

    int plus(int a, int b) {
        return x.node(0, a, b, 0);
    }

    int minus(int a, int b) {
        return x.node(1, a, b, 0);
    }

    int times(int a, int b) {
        return x.node(2, a, b, 0);
    }

    int over(int a, int b) {
        return x.node(3, a, b, 0);
    }

    int less(int a, int b) {
        return x.node(4, a, b, 0);
    }

    int equal(int a, int b) {
        return x.node(5, a, b, 0);
    }

    /** All of them, one behind the other. */
    int then(int first, int... rest) {
        int all = first;
        for (int next : rest) {
            all = x.node(10, all, next, 0);
        }
        return all;
    }

    int set(int output, int e) {
        return x.node(11, output, e, 0);
    }

    int let(int name, int e) {
        return x.node(12, name, e, 0);
    }

    int pause(int e) {
        return x.node(13, e, 0, 0);
    }

    int until(int e) {
        return x.node(14, e, 0, 0);
    }

    int beside(int a, int b) {
        return x.node(15, a, b, 0);
    }

    int when(int e, int b, int c) {
        return x.node(16, e, b, c);
    }

    int repeat(int e, int b) {
        return x.node(17, e, b, 0);
    }

    int limit(int e, int b, int handler) {
        return x.node(18, e, b, handler);
    }

    int ramp(int output, int e, int seconds) {
        return x.node(19, output, e, seconds);
    }

    int ask(int name) {
        return x.node(20, name, 0, 0);
    }

    int closing(int a, int b) {
        return x.node(21, a, b, 0);
    }

    /** A division by 0. */
    int broken() {
        return over(number(1), number(0));
    }

    /** An expression, 1 or 0, of that depth. */
    int deepExpression(int depth) {
        int one = number(1);
        int all = one;
        for (int d = 2; d <= depth; d++) {
            all = minus(one, all);
        }
        return all;
    }

    /** A statement of that depth, at least 2, which fits closing steps: it sets output 9 to 1. */
    int deepStatement(int depth) {
        int all = set(9, number(1));
        int one = all;
        for (int d = 3; d <= depth; d++) {
            all = then(one, all);
        }
        return all;
    }

    /** So many ones added up, which are 2 * ones - 1 leaves and nodes; halves keep it flat. */
    int ones(int ones) {
        if (!sums.containsKey(ones)) {
            sums.put(ones, ones == 1 ? number(1) : plus(ones(ones / 2), ones(ones - ones / 2)));
        }
        return sums.get(ones);
    }

    /** Leaves, until there are so many leaves and nodes. */
    void fill(int size) {
        int last = -1;
        for (int i = 0; i < size && last < size - 1; i++) {
            last = number(0);
        }
    }
}
