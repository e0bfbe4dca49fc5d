import java.util.ArrayList;
import java.util.List;
import java.util.Random;

/** Random runs of calls, the same on StepWalk and on the model: all answers are alike, and no call throws. */
public final class ModelTest {
    private static final int RUNS = 6000;
    private static final int CALLS = 512;
    private static final int[] REACHED = new int[8];

    private final Random random;
    private final StepWalk x = new StepWalk();
    private final Model m = new Model();
    private final List<Integer> expressions = new ArrayList<>();
    private final List<Integer> statements = new ArrayList<>();
    private final List<Integer> closings = new ArrayList<>();
    private final StringBuilder calls = new StringBuilder();
    private final int places;
    private boolean wrong;

    private ModelTest(long seed) {
        random = new Random(seed);
        places = random.nextInt(4) == 0 ? 16 : 3;
    }

    public static void main(String[] args) {
        Checks c = new Checks("ModelTest");
        for (int seed = 0; seed < RUNS; seed++) {
            ModelTest test = new ModelTest(seed);
            test.run();
            c.due("run of seed " + seed, test.wrong, false);
            if (test.wrong) {
                System.out.println(test.calls);
                break;
            }
        }
        String[] names = {"goes on", "ended", "held", "stopped", "division", "too many", "passed", "closed"};
        for (int i = 0; i < REACHED.length; i++) {
            c.due("'" + names[i] + "' was reached often", REACHED[i] > RUNS / 10, true);
        }
        c.end();
    }

    private void run() {
        int nodes = 10 + random.nextInt(120);
        for (int i = 0; i < nodes && !wrong; i++) {
            tell();
        }
        for (int i = nodes; i < CALLS / 2 && !wrong; i++) {
            call();
        }
    }

    private boolean chance(int of) {
        return random.nextInt(of) == 0;
    }

    private boolean same(String call, long got, long want) {
        calls.append(call).append(" = ").append(got);
        if (got != want) {
            calls.append(", the model: ").append(want);
            wrong = true;
        }
        calls.append('\n');
        return got == want;
    }

    private int place() {
        return chance(60) ? random.nextInt(40) - 12 : random.nextInt(places);
    }

    private long number() {
        switch (random.nextInt(12)) {
            case 0:
                return random.nextLong();
            case 1:
                return random.nextBoolean() ? Long.MAX_VALUE : Long.MIN_VALUE;
            case 2:
                return random.nextInt(1200);
            default:
                return random.nextInt(6) - 1;
        }
    }

    private int oneOf(List<Integer> list) {
        if (list.isEmpty() || chance(80)) {
            return random.nextInt(220) - 10;
        }
        int last = list.size() - 1;
        int back = chance(2) ? random.nextInt(4) : random.nextInt(list.size());
        return list.get(Math.max(0, last - back));
    }

    private void tell() {
        if (chance(3) || expressions.size() < 3) {
            int kind = chance(40) ? random.nextInt(9) - 3 : random.nextInt(4);
            long v = kind == 1 || kind == 2 ? place() : number();
            int k = x.leaf(kind, v);
            same("leaf(" + kind + ", " + v + ")", k, m.leaf(kind, v));
            if (k >= 0) {
                expressions.add(k);
            }
            return;
        }
        tellNode(chance(40) ? random.nextInt(30) - 3 : chance(4) ? random.nextInt(6) : 10 + random.nextInt(12));
    }

    private void tellNode(int what) {
        int a = oneOf(what == 10 || what == 15 || what == 21 ? statements : expressions);
        int b = oneOf(what <= 5 || what == 11 || what == 12 || what == 19 ? expressions
                : what == 21 && !chance(8) ? closings : statements);
        int c = what == 16 && chance(2) ? -1 : oneOf(what == 19 ? expressions : statements);
        if (what == 11 || what == 12 || what == 19 || what == 20) {
            a = place();
        }
        if (chance(3) && what == 16 || chance(3) && what == 10) {
            a = what == 10 ? oneOf(closings) : a;
            b = oneOf(closings);
            c = what == 16 && chance(2) ? -1 : oneOf(closings);
        }
        int k = x.node(what, a, b, c);
        same("node(" + what + ", " + a + ", " + b + ", " + c + ")", k, m.node(what, a, b, c));
        if (k < 0) {
            return;
        }
        (what <= 5 ? expressions : statements).add(k);
        boolean fits = what == 11 || what == 12
                || what == 10 && closings.contains(a) && closings.contains(b)
                || what == 16 && closings.contains(b) && (c == -1 || closings.contains(c));
        if (fits) {
            closings.add(k);
        }
    }

    private void call() {
        switch (random.nextInt(16)) {
            case 0:
                tell();
                break;
            case 1:
            case 2: {
                int k = place();
                long v = chance(3) ? number() : random.nextInt(2);
                same("signal(" + k + ", " + v + ")", bit(x.signal(k, v)), bit(m.signal(k, v)));
                break;
            }
            case 3: {
                int root = oneOf(statements);
                if (x.tick(0) < 1 && x.tick(0) != -1 && !chance(6)) {
                    break;
                }
                same("start(" + root + ")", x.start(root), m.start(root));
                break;
            }
            case 4: {
                long v = number();
                same("answer(" + v + ")", bit(x.answer(v)), bit(m.answer(v)));
                break;
            }
            case 5:
            case 6: {
                boolean on = chance(5);
                same("hold(" + on + ")", bit(x.hold(on)), bit(m.hold(on)));
                break;
            }
            case 7:
                if (chance(4)) {
                    same("stop()", x.stop(), m.stop());
                }
                break;
            case 8: {
                int k = place();
                same("safe(" + k + ", 77)", bit(x.safe(k, 77)), bit(m.safe(k, 77)));
                break;
            }
            default: {
                int n = chance(60) ? random.nextInt(30000) - 10000 : chance(5) ? random.nextInt(9) : 1;
                if (n > 200 && n <= 10000) {
                    n = 200;
                }
                int state = x.tick(n);
                same("tick(" + n + ")", state, m.tick(n));
                if (state >= 0) {
                    REACHED[state]++;
                }
                break;
            }
        }
        compare();
    }

    private static int bit(boolean b) {
        return b ? 1 : 0;
    }

    private void agree(String call, long got, long want) {
        if (got != want) {
            same(call, got, want);
        }
    }

    private void compare() {
        for (int k = -1; k <= 16; k++) {
            agree("output(" + k + ")", x.output(k), m.output(k));
            agree("value(" + k + ")", x.value(k), m.value(k));
        }
        boolean more = true;
        for (int k = -1; k < 520 && (more || k < 1); k++) {
            int got = x.step(k);
            agree("step(" + k + ")", got, m.step(k));
            more = got != -1;
        }
        more = true;
        for (int k = -1; k < 202 && (more || k < 1); k++) {
            for (int what = -1; what <= 3; what++) {
                agree("alarm(" + k + ", " + what + ")", x.alarm(k, what), m.alarm(k, what));
            }
            agree("closed(" + k + ")", x.closed(k), m.closed(k));
            more = x.alarm(k, 0) != -1 || x.closed(k) != -1;
        }
        if (x.alarm(0, 2) > 0) {
            REACHED[3 + x.alarm(0, 2)]++;
        }
        if (x.closed(0) != -1) {
            REACHED[7]++;
        }
    }
}
