/** The sentences that name an edge of what expressions are worth. */
public final class ReckonEdgeTest {
    private static final Checks C = new Checks("ReckonEdgeTest");
    private static final long LEAST = Long.MIN_VALUE;
    private static final long MOST = Long.MAX_VALUE;
    private static final long TURN = 1L << 32;
    /** The greatest number whose square is a long. */
    private static final long ROOT = 3037000499L;

    public static void main(String[] args) {
        numbers();
        signals();
        names();
        seconds();
        sums();
        differences();
        products();
        quotients();
        divisionsByZero();
        less();
        equal();
        C.end();
    }

    private static void reckoned(int what, long a, long b, long want) {
        Told t = new Told();
        t.x.start(t.set(0, t.x.node(what, t.number(a), t.number(b), 0)));
        C.due("tick(1) of node " + what + " of " + a + " and " + b, t.x.tick(1), 1);
        C.due("node " + what + " of " + a + " and " + b, t.x.output(0), want);
    }

    private static void numbers() {
        C.says("Terms", "EXPRESSIONS have longs as values .. kind 0 the number v");
        for (long v : new long[] {LEAST, -TURN, -1, 0, 1, TURN, TURN + 5, MOST}) {
            Told t = new Told();
            t.x.start(t.set(0, t.number(v)));
            t.x.tick(1);
            C.due("the number " + v, t.x.output(0), v);
        }
    }

    private static void signals() {
        C.says("Terms", "1 signal v, .. (0 .. 15)");
        for (int k : new int[] {0, 15}) {
            Told t = new Told();
            t.x.start(t.set(k, t.signal(k)));
            t.x.signal(k, LEAST + k);
            t.x.signal(15 - k, 5);
            t.x.tick(1);
            C.due("signal " + k, t.x.output(k), LEAST + k);
        }
    }

    private static void names() {
        C.says("Terms", "2 name v (0 .. 15)");
        for (int k : new int[] {0, 15}) {
            Told t = new Told();
            t.x.start(t.then(t.let(k, t.number(MOST - k)), t.let(15 - k, t.number(3)), t.set(k, t.name(k))));
            t.x.tick(1);
            C.due("name " + k, t.x.output(k), MOST - k);
        }
    }

    private static void seconds() {
        C.says("Terms", "3 the second (from 0 on) of the run");
        Told t = new Told();
        int again = t.repeat(t.number(MOST), t.then(t.let(0, t.second()), t.pause(t.number(1))));
        for (int run = 0; run < 2; run++) {
            t.x.start(again);
            t.x.tick(1);
            C.due("the first second", t.x.value(0), 0);
            t.x.tick(1);
            C.due("the next second", t.x.value(0), 1);
            t.x.tick(10000);
            C.due("10,000 seconds later", t.x.value(0), 10001);
        }
    }

    private static void sums() {
        C.says("Terms", "longs as values (wrapping) .. 0 a + b");
        reckoned(0, MOST - 1, 1, MOST);
        reckoned(0, MOST, 1, LEAST);
        reckoned(0, 1, MOST, LEAST);
        reckoned(0, LEAST + 1, -1, LEAST);
        reckoned(0, LEAST, -1, MOST);
        reckoned(0, MOST, MOST, -2);
        reckoned(0, LEAST, LEAST, 0);
        reckoned(0, LEAST, MOST, -1);
        reckoned(0, Integer.MAX_VALUE, 1, 1L << 31);
    }

    private static void differences() {
        C.says("Terms", "longs as values (wrapping) .. 1 a - b");
        reckoned(1, LEAST + 1, 1, LEAST);
        reckoned(1, LEAST, 1, MOST);
        reckoned(1, MOST - 1, -1, MOST);
        reckoned(1, MOST, -1, LEAST);
        reckoned(1, 0, LEAST, LEAST);
        reckoned(1, -1, LEAST, MOST);
        reckoned(1, LEAST, MOST, 1);
        reckoned(1, 3, 5, -2);
    }

    private static void products() {
        C.says("Terms", "longs as values (wrapping) .. 2 a * b");
        reckoned(2, ROOT, ROOT, 9223372030926249001L);
        reckoned(2, ROOT + 1, ROOT + 1, -9223372036709301616L);
        reckoned(2, (1L << 62) - 1, 2, MOST - 1);
        reckoned(2, 1L << 62, 2, LEAST);
        reckoned(2, 1L << 62, -2, LEAST);
        reckoned(2, LEAST, -1, LEAST);
        reckoned(2, MOST, -1, LEAST + 1);
        reckoned(2, TURN, TURN, 0);
        reckoned(2, 0, LEAST, 0);
    }

    private static void quotients() {
        C.says("Terms", "3 a / b towards 0");
        reckoned(3, 6, 3, 2);
        reckoned(3, 5, 3, 1);
        reckoned(3, -5, 3, -1);
        reckoned(3, 5, -3, -1);
        reckoned(3, -5, -3, 1);
        reckoned(3, -6, 3, -2);
        reckoned(3, 1, 2, 0);
        reckoned(3, -1, 2, 0);
        reckoned(3, MOST, -1, LEAST + 1);
        reckoned(3, LEAST + 1, -1, MOST);
        reckoned(3, LEAST, -1, LEAST);
        reckoned(3, LEAST, 1, LEAST);
        reckoned(3, LEAST, LEAST, 1);
        reckoned(3, MOST, LEAST, 0);
        reckoned(3, 0, 7, 0);
    }

    private static void divisionsByZero() {
        C.says("Terms", "a division by 0 (kind 1)");
        for (long b : new long[] {-1, 1, TURN, LEAST}) {
            reckoned(3, 0, b, 0);
        }
        for (long a : new long[] {LEAST, -1, 0, 1, MOST}) {
            Told t = new Told();
            int division = t.over(t.number(a), t.number(0));
            t.x.start(t.set(0, division));
            C.due(a + " / 0 holds", t.x.tick(1), 2);
            C.due(a + " / 0 is of kind", t.x.alarm(0, 2), 1);
            C.due(a + " / 0 is at the division", t.x.alarm(0, 1), division);
            C.due(a + " / 0 sets nothing", t.x.output(0), 0);
        }
    }

    private static void less() {
        C.says("Terms", "4 whether a is less than b (1, 0)");
        reckoned(4, 4, 5, 1);
        reckoned(4, 5, 5, 0);
        reckoned(4, 6, 5, 0);
        reckoned(4, -1, 0, 1);
        reckoned(4, 0, -1, 0);
        reckoned(4, LEAST, LEAST + 1, 1);
        reckoned(4, LEAST, LEAST, 0);
        reckoned(4, MOST, MOST, 0);
        reckoned(4, MOST - 1, MOST, 1);
        reckoned(4, LEAST, MOST, 1);
        reckoned(4, MOST, LEAST, 0);
        reckoned(4, TURN, 1, 0);
        reckoned(4, 1, TURN, 1);
    }

    private static void equal() {
        C.says("Terms", "5 whether they are equal");
        reckoned(5, 5, 5, 1);
        reckoned(5, 4, 5, 0);
        reckoned(5, 6, 5, 0);
        reckoned(5, LEAST, LEAST, 1);
        reckoned(5, MOST, MOST, 1);
        reckoned(5, LEAST, MOST, 0);
        reckoned(5, LEAST, 0, 0);
        reckoned(5, 5, TURN + 5, 0);
        reckoned(5, 1L << 40, 1L << 40, 1);
    }
}
