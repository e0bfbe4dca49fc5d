/** Promises 1 to 3: a new object, leaf, node. */
public final class ProgramTest {
    private static final Checks C = new Checks("ProgramTest");

    public static void main(String[] args) {
        newObject();
        leaves();
        leavesFull();
        expressionNodes();
        expressionSize();
        depth();
        statementNodes();
        closingSteps();
        nodesFull();
        C.end();
    }

    private static void newObject() {
        StepWalk x = new StepWalk();
        for (int k = -1; k <= 16; k++) {
            C.due("output of a new object", x.output(k), 0);
            C.due("value of a new object", x.value(k), 0);
            C.due("step of a new object", x.step(k), -1);
            C.due("alarm of a new object", x.alarm(k, 0), -1);
            C.due("closed of a new object", x.closed(k), -1);
        }
        C.due("tick without a run", x.tick(0), -1);
        C.due("tick without a run", x.tick(1), -1);
        C.due("start without a program", x.start(0), -1);
        C.due("start without a program", x.start(-1), -1);
        C.due("hold without a run", x.hold(true), false);
        C.due("hold without a run", x.hold(false), false);
        C.due("stop without a run", x.stop(), -1);
        C.due("answer without a run", x.answer(1), false);
        signalsAreZero();
        noSafeValues();
    }

    private static void signalsAreZero() {
        Told t = new Told();
        int all = t.number(0);
        for (int k = 0; k < 16; k++) {
            all = t.plus(all, t.times(t.signal(k), t.signal(k)));
        }
        t.x.start(t.set(3, t.plus(all, t.number(5))));
        t.x.tick(1);
        C.due("signals of a new object", t.x.output(3), 5);
    }

    private static void noSafeValues() {
        Told t = new Told();
        int seven = t.number(7);
        int all = t.set(0, seven);
        for (int k = 1; k < 16; k++) {
            all = t.then(all, t.set(k, seven));
        }
        t.x.start(t.then(all, t.pause(seven)));
        t.x.tick(1);
        t.x.hold(true);
        for (int k = 0; k < 16; k++) {
            C.due("output without a safe value while held", t.x.output(k), 7);
        }
    }

    private static void leaves() {
        StepWalk x = new StepWalk();
        C.due("leaf(0, least)", x.leaf(0, Long.MIN_VALUE), 0);
        C.due("leaf(0, most)", x.leaf(0, Long.MAX_VALUE), 1);
        C.due("leaf(1, 0)", x.leaf(1, 0), 2);
        C.due("leaf(1, 15)", x.leaf(1, 15), 3);
        C.due("leaf(2, 0)", x.leaf(2, 0), 4);
        C.due("leaf(2, 15)", x.leaf(2, 15), 5);
        C.due("leaf(3, any)", x.leaf(3, -99), 6);
        for (int kind = 1; kind <= 2; kind++) {
            C.due("leaf(kind, -1)", x.leaf(kind, -1), -1);
            C.due("leaf(kind, 16)", x.leaf(kind, 16), -1);
            C.due("leaf(kind, 2^32)", x.leaf(kind, 1L << 32), -1);
        }
        C.due("leaf(-1, 0)", x.leaf(-1, 0), -1);
        C.due("leaf(4, 0)", x.leaf(4, 0), -1);
        C.due("leaf(most, 0)", x.leaf(Integer.MAX_VALUE, 0), -1);
        C.due("what is refused has no number", x.leaf(0, 0), 7);
    }

    private static void leavesFull() {
        StepWalk x = new StepWalk();
        for (int i = 0; i < 200; i++) {
            C.due("leaf of number", x.leaf(i % 4, i % 16), i);
        }
        C.due("leaf 200", x.leaf(0, 0), -2);
        C.due("a wrong leaf when full", x.leaf(4, 0), -1);
        C.due("node when full", x.node(0, 0, 0, 0), -2);
        C.due("a wrong node when full", x.node(6, 0, 0, 0), -1);
    }

    private static void expressionNodes() {
        Told t = new Told();
        int e = t.number(1);
        int s = t.pause(e);
        for (int what = 0; what <= 5; what++) {
            C.due("an expression of no part there", t.x.node(what, e, 2 + what, 0), -1);
            C.due("an expression of part -1", t.x.node(what, -1, e, 0), -1);
            C.due("an expression of a statement", t.x.node(what, e, s, 0), -1);
            C.due("an expression of a statement", t.x.node(what, s, e, 0), -1);
            C.due("an expression", t.x.node(what, e, e, Integer.MIN_VALUE), 2 + what);
        }
        for (int what : new int[] {-1, 6, 7, 8, 9, 22, 30, 31, 32, 33, Integer.MAX_VALUE, Integer.MIN_VALUE}) {
            C.due("node(" + what + ", ..)", t.x.node(what, e, e, e), -1);
            C.due("node(" + what + ", ..)", t.x.node(what, s, s, s), -1);
        }
        C.due("what is refused has no number", t.number(0), 8);
    }

    private static void expressionSize() {
        Told t = new Told();
        int e = t.number(1);
        int chain = e;
        for (int size = 3; size <= 31; size += 2) {
            chain = t.plus(chain, e);
        }
        // 31 leaves and nodes, of depth 16
        int two = t.plus(chain, chain);
        int three = t.plus(two, chain);
        int six = t.plus(three, three);
        C.due("six times 31 and 5", six >= 0, true);
        int nine = t.plus(e, e);
        nine = t.plus(nine, t.plus(e, e));
        nine = t.plus(nine, e);
        C.due("191 + 9 + 1 are too many", t.plus(six, nine), -1);
        int seven = t.plus(t.plus(e, e), t.plus(e, e));
        int full = t.plus(six, seven);
        C.due("191 + 7 + 1 are not", full >= 0, true);
        C.due("199 + 1 + 1 are too many", t.plus(full, e), -1);
        C.due("a statement is no expression", t.set(0, full) >= 0, true);
    }

    private static void depth() {
        Told t = new Told();
        int e = t.number(1);
        int chain = e;
        for (int depth = 2; depth <= 30; depth++) {
            chain = t.minus(e, chain);
            C.due("expression of depth " + depth, chain >= 0, true);
        }
        C.due("expression of depth 31", t.minus(e, chain), -1);
        C.due("expression of depth 31", t.minus(chain, e), -1);
        C.due("set of depth 31", t.set(0, chain), -1);
        C.due("ramp of depth 31", t.ramp(0, e, chain), -1);
        int ask = t.ask(0);
        int steps = ask;
        for (int depth = 2; depth <= 30; depth++) {
            steps = t.then(ask, steps);
            C.due("statement of depth " + depth, steps >= 0, true);
        }
        C.due("statement of depth 31", t.then(steps, ask), -1);
        C.due("else of depth 31", t.when(e, ask, steps), -1);
        C.due("handler of depth 31", t.limit(e, ask, steps), -1);
    }

    private static void statementNodes() {
        Told t = new Told();
        int e = t.number(1);
        int s = t.pause(e);
        // What each of a, b and c is: e an expression, s a statement, p a place, n a statement or NONE, - free.
        String[] roles = {"ss-", "pe-", "pe-", "e--", "e--", "ss-", "esn", "es-", "ess", "pee", "p--"};
        for (int i = 0; i < roles.length; i++) {
            int what = 10 + i;
            int[] right = new int[3];
            for (int k = 0; k < 3; k++) {
                right[k] = roles[i].charAt(k) == 'e' ? e : roles[i].charAt(k) == 'p' ? 15
                        : roles[i].charAt(k) == '-' ? -77 : s;
            }
            C.due("node " + what, t.x.node(what, right[0], right[1], right[2]) >= 0, true);
            for (int k = 0; k < 3; k++) {
                for (int wrong : wrongFor(roles[i].charAt(k), e, s)) {
                    int[] parts = right.clone();
                    parts[k] = wrong;
                    C.due("node " + what + " with part " + k + " " + wrong,
                            t.x.node(what, parts[0], parts[1], parts[2]), -1);
                }
            }
        }
        C.due("if without else", t.when(e, s, -1) >= 0, true);
        C.due("place 0", t.ask(0) >= 0, true);
    }

    private static int[] wrongFor(char role, int e, int s) {
        switch (role) {
            case 'e':
                return new int[] {s, -1, -2, 199, 200, Integer.MAX_VALUE, Integer.MIN_VALUE};
            case 's':
                return new int[] {e, -1, -2, 199, 200, Integer.MAX_VALUE, Integer.MIN_VALUE};
            case 'n':
                return new int[] {e, -2, 199, 200};
            case 'p':
                return new int[] {-1, 16, Integer.MAX_VALUE, Integer.MIN_VALUE};
            default:
                return new int[0];
        }
    }

    private static void closingSteps() {
        Told t = new Told();
        int e = t.number(1);
        int set = t.set(0, e);
        int let = t.let(0, e);
        int rest = t.pause(e);
        int fits = t.then(t.when(e, set, let), t.when(e, let, -1));
        C.due("closing steps of 10, 11, 12, 16", t.closing(rest, fits) >= 0, true);
        int[] others = {rest, t.until(e), t.beside(set, set), t.repeat(e, set), t.limit(e, set, set),
            t.ramp(0, e, e), t.ask(0), t.closing(set, set)};
        for (int other : others) {
            C.due("what is closed may be any", t.closing(other, set) >= 0, true);
            C.due("closing steps of another", t.closing(set, other), -1);
            C.due("closing steps with another in them", t.closing(set, t.then(set, other)), -1);
            C.due("closing steps with another in them", t.closing(set, t.when(e, set, other)), -1);
            C.due("closing steps with another in them", t.closing(set, t.then(set, t.then(other, set))), -1);
        }
        C.due("closing steps of an expression", t.closing(set, e), -1);
        C.due("closing of an expression", t.closing(e, set), -1);
        C.due("closing steps that are not there", t.closing(set, 199), -1);
        C.due("closing steps NONE", t.closing(set, -1), -1);
    }

    private static void nodesFull() {
        Told t = new Told();
        int e = t.number(1);
        for (int i = 1; i < 200; i++) {
            C.due("node of number", t.pause(e), i);
        }
        C.due("node 200", t.pause(e), -2);
        C.due("a wrong node when full", t.pause(1), -1);
        C.due("leaf when full", t.number(1), -2);
        C.due("the last is there", t.x.start(199), 1);
    }
}
