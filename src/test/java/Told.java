/** Tells a program to a new object, by the names of the document. */
final class Told {
    final StepWalk x = new StepWalk();

    int number(long v) {
        return x.leaf(0, v);
    }

    int signal(int k) {
        return x.leaf(1, k);
    }

    int name(int k) {
        return x.leaf(2, k);
    }

    int second() {
        return x.leaf(3, 0);
    }

    int plus(int a, int b) {
        return x.node(0, a, b, 0);
    }

    int minus(int a, int b) {
        return x.node(1, a, b, 0);
    }

    int times(int a, int b) {
        return x.node(2, a, b, 0);
    }

    int over(int a, int b) {
        return x.node(3, a, b, 0);
    }

    int less(int a, int b) {
        return x.node(4, a, b, 0);
    }

    int equal(int a, int b) {
        return x.node(5, a, b, 0);
    }

    /** All of them, one behind the other. */
    int then(int first, int... rest) {
        int all = first;
        for (int next : rest) {
            all = x.node(10, all, next, 0);
        }
        return all;
    }

    int set(int output, int e) {
        return x.node(11, output, e, 0);
    }

    int let(int name, int e) {
        return x.node(12, name, e, 0);
    }

    int pause(int e) {
        return x.node(13, e, 0, 0);
    }

    int until(int e) {
        return x.node(14, e, 0, 0);
    }

    int beside(int a, int b) {
        return x.node(15, a, b, 0);
    }

    int when(int e, int b, int c) {
        return x.node(16, e, b, c);
    }

    int repeat(int e, int b) {
        return x.node(17, e, b, 0);
    }

    int limit(int e, int b, int handler) {
        return x.node(18, e, b, handler);
    }

    int ramp(int output, int e, int seconds) {
        return x.node(19, output, e, seconds);
    }

    int ask(int name) {
        return x.node(20, name, 0, 0);
    }

    int closing(int a, int b) {
        return x.node(21, a, b, 0);
    }

    /** A division by 0. */
    int broken() {
        return over(number(1), number(0));
    }
}
