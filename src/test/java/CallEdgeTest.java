/** The sentences that name an edge of a call: promises 1 and 4 to 15. */
public final class CallEdgeTest {
    private static final Checks C = new Checks("CallEdgeTest");
    private static final int LEAST = Integer.MIN_VALUE;
    private static final int MOST = Integer.MAX_VALUE;
    private static final int[] NO_PLACE = {-1, 16, 17, -16, LEAST, MOST};

    public static void main(String[] args) {
        newObject();
        last512();
        signalNumbers();
        signalFromNowOn();
        startRoots();
        startOf500();
        startOfVeryMany();
        startClears();
        startForgets();
        startKeeps();
        startAtSecondZero();
        tickNumbers();
        tickStates();
        tickStopsAtItsEnd();
        noSecondWhileHeld();
        outputNumbers();
        outputWhileHeld();
        stepNumbers();
        stepOfMany();
        stepStates();
        alarmNumbers();
        answerOrder();
        answerRefused();
        holdIsNew();
        holdRefused();
        stopCounts();
        stopRefused();
        closedNumbers();
        valueNumbers();
        safeNumbers();
        C.end();
    }

    private static void newObject() {
        C.says("Promise 1", "No program; signals, names, outputs are 0, no output has a safe value");
        StepWalk x = new StepWalk();
        C.due("no program", x.start(0), -1);
        C.due("no part", x.node(13, 0, 0, 0), -1);
        C.due("no run", x.tick(0), -1);
        for (int k = 0; k < 16; k++) {
            C.due("output(" + k + ")", x.output(k), 0);
            C.due("value(" + k + ")", x.value(k), 0);
            Told t = new Told();
            t.x.start(t.then(t.set(k, t.minus(t.signal(k), t.number(1))), t.ask(0)));
            t.x.tick(1);
            C.due("signal " + k + " is 0", t.x.output(k), -1);
            t.x.hold(true);
            C.due("no safe value of " + k, t.x.output(k), -1);
        }
    }

    private static void last512() {
        C.says("What it is", "An object is used for at most 512 calls after it has been made");
        Told t = new Told();
        int all = t.repeat(t.number(1000), t.then(t.let(15, t.second()), t.pause(t.number(1))));
        t.x.start(all);
        int calls = all + 2;
        int ticks = 512 - calls - 2;
        for (int i = 0; i < ticks; i++) {
            t.x.tick(1);
        }
        C.due("call 511", t.x.tick(10), 0);
        C.due("call 512", t.x.value(15), ticks + 10 - 1);
    }

    private static void signalNumbers() {
        C.says("Promise 4", "False, refused, when k is not 0 .. 15");
        StepWalk x = new StepWalk();
        for (int k : NO_PLACE) {
            C.due("signal(" + k + ", 1)", x.signal(k, 1), false);
        }
        for (int k = 0; k <= 15; k++) {
            C.due("signal(" + k + ", 1)", x.signal(k, 1), true);
            C.due("the same again", x.signal(k, 1), true);
        }
    }

    private static void signalFromNowOn() {
        C.says("Promise 4", "A signal has a value from now on");
        for (int k : new int[] {0, 15}) {
            Told t = new Told();
            t.x.start(t.repeat(t.number(9), t.then(t.set(0, t.signal(k)), t.pause(t.number(1)))));
            for (long v : new long[] {Long.MIN_VALUE, -1, 0, 1, Long.MAX_VALUE}) {
                t.x.signal(k, 7);
                C.due("signal(" + k + ", " + v + ")", t.x.signal(k, v), true);
                t.x.tick(1);
                C.due("the last that was told", t.x.output(0), v);
            }
        }
    }

    private static void startRoots() {
        C.says("Promise 5", "NONE, refused, when root is no statement");
        Told t = new Told();
        int e = t.number(1);
        int sum = t.plus(e, e);
        int s = t.set(0, sum);
        for (int root : new int[] {-1, -2, e, sum, s + 1, 199, 200, LEAST, MOST}) {
            C.due("start(" + root + ")", t.x.start(root), -1);
            C.due("no run", t.x.tick(0), -1);
        }
        C.due("start(the last)", t.x.start(s), 1);
        int first = new Told().ask(0);
        C.due("a statement of number 0", first, 0);
        Told u = new Told();
        C.due("start(0)", u.x.start(u.ask(0)), 1);
    }

    /** A statement of so many, an odd number: the one again and again, and THENs; halves keep it flat. */
    private static int statements(Told t, int one, int n) {
        if (n == 1) {
            return one;
        }
        int half = (n - 1) / 2;
        // Both halves are odd, as n is.
        int a = half % 2 == 1 ? half : half + 1;
        int first = statements(t, one, a);
        return t.then(first, a == n - 1 - a ? first : statements(t, one, n - 1 - a));
    }

    private static void startOf500() {
        C.says("Promise 5", "FULL, refused, when there are more than 500");
        for (int what : new int[] {10, 15, 16, 17, 18, 21}) {
            Told t = new Told();
            int e = t.number(1);
            int set = t.set(0, e);
            // 249 LETs and 248 THENs
            int most = statements(t, t.let(0, t.plus(t.name(0), e)), 497);
            int good = what == 17 ? t.repeat(e, t.repeat(e, t.repeat(e, most)))
                    : what == 16 ? t.when(e, t.when(e, t.when(e, most, -1), -1), -1)
                    : t.repeat(e, node(t, what, e, most, set));
            C.due("500 statements in " + what, t.x.start(good), 500);
            C.due("they are walked", t.x.tick(1), 1);
            C.due("to the last LET", t.x.value(0), 249);
            boolean setIsLast = what == 10 || what == 15 || what == 21;
            C.due("to the last SET", t.x.output(0), setIsLast ? 1 : 0);
            int bad = what == 16 ? t.when(e, good, -1) : t.repeat(e, good);
            C.due("501 statements in " + what, t.x.start(bad), -2);
            C.due("502 statements in " + what, t.x.start(t.then(good, set)), -2);
            C.due("the other way round", t.x.start(t.then(set, good)), -2);
        }
    }

    /** A node of two statements. */
    private static int node(Told t, int what, int e, int a, int b) {
        return what == 18 ? t.limit(e, a, b) : t.x.node(what, a, b, 0);
    }

    private static void startOfVeryMany() {
        C.says("Promise 5", "FULL, refused, when there are more than 500");
        Told t = new Told();
        int all = t.ask(0);
        int want = 1;
        for (int depth = 2; depth <= 30; depth++) {
            all = t.then(all, all);
            want = want > 500 ? want : 2 * want + 1;
            C.due("depth " + depth + " of two each", t.x.start(all), want > 500 ? -2 : want);
        }
    }

    private static void startClears() {
        C.says("Promise 5", "Names and outputs are 0, there are no alarms");
        for (int k : new int[] {0, 15}) {
            Told t = new Told();
            int nine = t.number(9);
            int guard = t.closing(t.set(k, nine), t.let(k, nine));
            int all = t.then(guard, t.set(3, t.broken()));
            t.x.start(all);
            C.due("held", t.x.tick(1), 2);
            C.due("output", t.x.output(k), 9);
            C.due("name", t.x.value(k), 9);
            C.due("alarm", t.x.alarm(0, 2), 1);
            C.due("closed", t.x.closed(0), guard);
            C.due("start", t.x.start(all), 5);
            C.due("output " + k, t.x.output(k), 0);
            C.due("name " + k, t.x.value(k), 0);
            C.due("no alarm", t.x.alarm(0, 2), -1);
            C.due("none closed", t.x.closed(0), -1);
            C.due("not held", t.x.hold(false), false);
        }
    }

    private static void startForgets() {
        C.says("Promise 5", "A run of a statement begins");
        Told t = new Told();
        int ask = t.ask(0);
        int rest = t.pause(t.number(9));
        int limit = t.limit(t.signal(0), t.closing(ask, t.set(1, t.number(1))), t.set(2, t.number(1)));
        // A run is left while much of it stands, and a smaller one follows.
        for (int left : new int[] {ask, limit, t.beside(limit, ask), t.then(t.set(0, t.number(1)), limit)}) {
            for (int next : new int[] {rest, t.then(rest, ask), t.then(rest, limit)}) {
                t.x.signal(0, 1);
                t.x.start(t.beside(left, t.beside(left, left)));
                t.x.tick(1);
                C.due("it stands", t.x.step(2), ask);
                t.x.start(next);
                C.due("nothing of it stands", t.x.step(0), -1);
                C.due("nothing of it asks", t.x.answer(5), false);
                t.x.signal(0, 0);
                C.due("the next goes on", t.x.tick(1), 0);
                C.due("its wait stands", t.x.step(0), rest);
                C.due("alone", t.x.step(1), -1);
                C.due("no ask of the one left", t.x.answer(5), false);
                C.due("no limit of it", t.x.alarm(0, 0), -1);
                C.due("stop", t.x.stop(), 0);
                C.due("no closing steps of it", t.x.closed(0), -1);
                C.due("nor what they do", t.x.output(1), 0);
            }
        }
    }

    private static void startKeeps() {
        C.says("Promises 4 and 15", "from now on; while a run is held");
        Told t = new Told();
        t.x.signal(15, 4);
        t.x.safe(15, 6);
        int all = t.then(t.set(15, t.signal(15)), t.ask(0));
        for (int run = 0; run < 2; run++) {
            t.x.start(all);
            t.x.tick(1);
            C.due("the signal stays", t.x.output(15), 4);
            t.x.hold(true);
            C.due("the safe value stays", t.x.output(15), 6);
        }
    }

    private static void startAtSecondZero() {
        C.says("Promise 5", "A run of a statement begins at second 0, which the first tick() does");
        Told t = new Told();
        int all = t.then(t.let(0, t.plus(t.second(), t.number(100))), t.ask(1));
        for (int run = 0; run < 2; run++) {
            t.x.start(all);
            C.due("nothing is done yet", t.x.value(0), 0);
            C.due("nothing stands yet", t.x.step(0), -1);
            C.due("nor behind tick(0)", t.x.tick(0), 0);
            C.due("nothing is done yet", t.x.value(0), 0);
            t.x.tick(1);
            C.due("second 0", t.x.value(0), 100);
            t.x.tick(20);
        }
    }

    private static void tickNumbers() {
        C.says("Promise 6", "So many seconds go by (0 .. 10,000)");
        Told t = new Told();
        t.x.start(t.repeat(t.number(100000), t.then(t.let(0, t.second()), t.pause(t.number(1)))));
        t.x.tick(1);
        for (int seconds : new int[] {-1, 10001, -10000, LEAST, MOST}) {
            C.due("tick(" + seconds + ")", t.x.tick(seconds), -1);
            C.due("no second goes by", t.x.value(0), 0);
        }
        C.due("tick(0)", t.x.tick(0), 0);
        C.due("no second goes by", t.x.value(0), 0);
        C.due("tick(1)", t.x.tick(1), 0);
        C.due("one second", t.x.value(0), 1);
        C.due("tick(9999)", t.x.tick(9999), 0);
        C.due("9,999 seconds", t.x.value(0), 10000);
        C.due("tick(10000)", t.x.tick(10000), 0);
        C.due("10,000 seconds", t.x.value(0), 20000);
    }

    private static void tickStates() {
        C.says("Promise 6", "0 it goes on, 1 it has ended, 2 it is held, 3 it is stopped. NONE, .. without a run");
        Told t = new Told();
        int rest = t.pause(t.number(2));
        for (int seconds : new int[] {-1, 0, 1, 10000, 10001}) {
            boolean good = seconds >= 0 && seconds <= 10000;
            C.due("tick(" + seconds + ") without a run", new Told().x.tick(seconds), -1);
            t.x.start(rest);
            t.x.tick(1);
            t.x.hold(true);
            C.due("tick(" + seconds + ") held", t.x.tick(seconds), good ? 2 : -1);
            t.x.stop();
            C.due("tick(" + seconds + ") stopped", t.x.tick(seconds), good ? 3 : -1);
            t.x.start(rest);
            t.x.tick(3);
            C.due("tick(" + seconds + ") ended", t.x.tick(seconds), good ? 1 : -1);
        }
    }

    private static void tickStopsAtItsEnd() {
        C.says("Promise 6", "as long as the run is not held, ended or stopped");
        Told t = new Told();
        t.x.start(t.pause(t.number(9999)));
        C.due("the last second is not done yet", t.x.tick(9999), 0);
        C.due("the last second", t.x.tick(10000), 1);
        t.x.start(t.pause(t.number(9999)));
        C.due("all seconds", t.x.tick(10000), 1);
        t.x.start(t.then(t.pause(t.number(4)), t.set(0, t.broken()), t.set(1, t.number(1))));
        C.due("all before the fault", t.x.tick(4), 0);
        C.due("held by the fault", t.x.tick(10000), 2);
        C.due("one alarm", t.x.alarm(1, 0), -1);
        t.x.hold(false);
        C.due("the next second faults again", t.x.tick(10000), 2);
        C.due("in second 5", t.x.alarm(1, 0), 5);
    }

    private static void noSecondWhileHeld() {
        C.says("Promise 6", "while it is held no second goes by, waits and ramps are as much longer");
        Told t = new Told();
        t.x.start(t.beside(t.ramp(0, t.number(30), t.number(3)), t.then(t.pause(t.number(2)), t.set(1, t.second()))));
        t.x.tick(2);
        t.x.hold(true);
        C.due("held", t.x.tick(10000), 2);
        C.due("the ramp stays", t.x.output(0), 10);
        t.x.hold(false);
        C.due("the ramp does not go on by that", t.x.output(0), 10);
        t.x.tick(1);
        C.due("the ramp after 2", t.x.output(0), 20);
        C.due("the wait is over in second 2", t.x.output(1), 2);
        C.due("its end", t.x.tick(1), 1);
        C.due("the ramp after 3", t.x.output(0), 30);
    }

    private static void outputNumbers() {
        C.says("Promise 7", "0 when k is not 0 .. 15");
        Told t = allPlaces();
        for (int k = 0; k <= 15; k++) {
            C.due("output(" + k + ")", t.x.output(k), 100 + k);
        }
        for (int k : NO_PLACE) {
            C.due("output(" + k + ")", t.x.output(k), 0);
            t.x.safe(k, 5);
            t.x.hold(true);
            C.due("output(" + k + ") while held", t.x.output(k), 0);
            t.x.hold(false);
        }
    }

    /** Outputs and names have values of 100 and 200 on, and the run goes on. */
    private static Told allPlaces() {
        Told t = new Told();
        int all = t.ask(0);
        for (int k = 15; k >= 0; k--) {
            all = t.then(t.then(t.set(k, t.number(100 + k)), t.let(k, t.number(200 + k))), all);
        }
        t.x.start(all);
        t.x.tick(1);
        return t;
    }

    private static void outputWhileHeld() {
        C.says("Promise 7", "while the run is held its safe value, when it has one");
        Told t = allPlaces();
        t.x.safe(0, -5);
        t.x.safe(15, 0);
        C.due("not held", t.x.output(0), 100);
        t.x.hold(true);
        C.due("held", t.x.output(0), -5);
        C.due("a safe value of 0", t.x.output(15), 0);
        C.due("none at 1", t.x.output(1), 101);
        C.due("none at 14", t.x.output(14), 114);
        t.x.hold(false);
        C.due("goes on", t.x.output(0), 100);
        C.due("goes on", t.x.output(15), 115);
        t.x.hold(true);
        t.x.stop();
        C.due("stopped", t.x.output(0), 100);
        t.x.start(t.set(0, t.number(8)));
        t.x.tick(1);
        C.due("ended", t.x.output(0), 8);
        t.x.start(t.then(t.set(0, t.number(8)), t.set(1, t.broken())));
        t.x.tick(1);
        C.due("held by a fault", t.x.output(0), -5);
    }

    private static void stepNumbers() {
        C.says("Promise 8", "Number branch, from 0, of what stands still now .. NONE when there are not so many");
        Told t = new Told();
        int rest = t.pause(t.number(9));
        int until = t.until(t.signal(0));
        int ramp = t.ramp(0, t.number(9), t.number(9));
        int ask = t.ask(0);
        t.x.start(t.beside(t.beside(rest, until), t.beside(ramp, ask)));
        t.x.tick(1);
        int[] want = {rest, until, ramp, ask};
        for (int k = 0; k < want.length; k++) {
            C.due("step(" + k + ")", t.x.step(k), want[k]);
        }
        for (int k : new int[] {-1, 4, 5, LEAST, MOST}) {
            C.due("step(" + k + ")", t.x.step(k), -1);
        }
    }

    private static void stepOfMany() {
        C.says("Promise 8", "Number branch, from 0, of what stands still now");
        Told t = new Told();
        int ask = t.ask(0);
        int last = t.pause(t.number(3));
        // 249 asks side by side, and the wait behind them in the text: 499 statements
        int asks = asks(t, ask, 249);
        C.due("499 statements", t.x.start(t.beside(asks, last)), 499);
        t.x.tick(1);
        C.due("step(0)", t.x.step(0), ask);
        C.due("step(248)", t.x.step(248), ask);
        C.due("step(249)", t.x.step(249), last);
        C.due("step(250)", t.x.step(250), -1);
        for (int i = 0; i < 249; i++) {
            C.due("answer " + i, t.x.answer(i), true);
        }
        C.due("no more", t.x.answer(249), false);
        t.x.tick(1);
        C.due("the wait alone", t.x.step(0), last);
        C.due("none behind it", t.x.step(1), -1);
    }

    private static int asks(Told t, int ask, int n) {
        if (n == 1) {
            return ask;
        }
        int half = asks(t, ask, n / 2);
        return n % 2 == 0 ? t.beside(half, half) : t.beside(t.beside(half, half), ask);
    }

    private static void stepStates() {
        C.says("Promise 8", "NONE when .. without a run, or when it has ended or is stopped");
        Told t = new Told();
        int rest = t.pause(t.number(2));
        C.due("without a run", t.x.step(0), -1);
        t.x.start(rest);
        C.due("not begun", t.x.step(0), -1);
        t.x.tick(1);
        C.due("begun", t.x.step(0), rest);
        t.x.tick(1);
        C.due("not ended", t.x.step(0), rest);
        t.x.hold(true);
        C.due("held", t.x.step(0), rest);
        t.x.hold(false);
        t.x.tick(1);
        C.due("ended", t.x.step(0), -1);
        t.x.start(rest);
        t.x.tick(1);
        t.x.stop();
        C.due("stopped", t.x.step(0), -1);
    }

    private static void alarmNumbers() {
        C.says("Promise 9", "its second (what = 0), node (1), kind (2). NONE");
        Told t = new Told();
        int division = t.broken();
        C.due("without a run", t.x.alarm(0, 0), -1);
        t.x.start(t.then(t.pause(t.number(7)), t.set(0, division)));
        C.due("none yet", t.x.alarm(0, 0), -1);
        t.x.tick(20);
        int[] want = {7, division, 1};
        for (int what = 0; what < 3; what++) {
            C.due("alarm(0, " + what + ")", t.x.alarm(0, what), want[what]);
            for (int k : new int[] {-1, 1, 199, 200, LEAST, MOST}) {
                C.due("alarm(" + k + ", " + what + ")", t.x.alarm(k, what), -1);
            }
        }
        for (int what : new int[] {-1, 3, LEAST, MOST}) {
            C.due("alarm(0, " + what + ")", t.x.alarm(0, what), -1);
        }
        t.x.stop();
        C.due("behind a stop", t.x.alarm(0, 0), 7);
    }

    private static void answerOrder() {
        C.says("Promise 10", "The first ASK, in the order of the text, that stands still and was not answered yet");
        Told t = new Told();
        int late = t.then(t.pause(t.number(1)), t.ask(0));
        t.x.start(t.beside(late, t.beside(t.ask(15), t.ask(15))));
        t.x.tick(1);
        C.due("the first that stands", t.x.answer(Long.MAX_VALUE), true);
        C.due("its name", t.x.value(15), Long.MAX_VALUE);
        C.due("not the one that was not begun", t.x.value(0), 0);
        t.x.tick(1);
        C.due("the first of the text now", t.x.answer(Long.MIN_VALUE), true);
        C.due("its name", t.x.value(0), Long.MIN_VALUE);
        C.due("the last", t.x.answer(3), true);
        C.due("its name", t.x.value(15), 3);
        C.due("no more", t.x.answer(4), false);
        C.due("and nothing by that", t.x.value(15), 3);
        C.due("all go on", t.x.tick(1), 1);
    }

    private static void answerRefused() {
        C.says("Promise 10", "False when there is none, or the run is held");
        Told t = new Told();
        int ask = t.ask(15);
        C.due("without a run", t.x.answer(5), false);
        t.x.start(ask);
        C.due("not begun", t.x.answer(5), false);
        t.x.tick(1);
        t.x.hold(true);
        C.due("held", t.x.answer(5), false);
        C.due("no value", t.x.value(15), 0);
        t.x.hold(false);
        C.due("goes on", t.x.answer(6), true);
        C.due("answered", t.x.answer(5), false);
        C.due("its value", t.x.value(15), 6);
        t.x.tick(1);
        C.due("ended", t.x.answer(5), false);
        t.x.start(ask);
        t.x.tick(1);
        t.x.stop();
        C.due("stopped", t.x.answer(5), false);
        C.due("no value", t.x.value(15), 0);
        t.x.start(t.pause(t.number(9)));
        t.x.tick(1);
        C.due("a wait is no ask", t.x.answer(5), false);
    }

    private static void holdIsNew() {
        C.says("Promise 11", "The run is held, or goes on: whether that is new");
        Told t = new Told();
        t.x.start(t.ask(0));
        for (int i = 0; i < 2; i++) {
            C.due("goes on already", t.x.hold(false), false);
            C.due("still goes on", t.x.tick(0), 0);
            C.due("held now", t.x.hold(true), true);
            C.due("held already", t.x.hold(true), false);
            C.due("still held", t.x.tick(1), 2);
            C.due("goes on now", t.x.hold(false), true);
            t.x.tick(1);
        }
    }

    private static void holdRefused() {
        C.says("Promise 11", "False without a run, or when it has ended or is stopped");
        for (boolean on : new boolean[] {true, false}) {
            Told t = new Told();
            C.due("without a run", t.x.hold(on), false);
            int set = t.set(0, t.number(5));
            t.x.safe(0, 9);
            t.x.start(set);
            t.x.tick(1);
            C.due("ended", t.x.hold(on), false);
            C.due("it stays ended", t.x.tick(1), 1);
            C.due("no safe value by that", t.x.output(0), 5);
            t.x.start(set);
            t.x.stop();
            C.due("stopped", t.x.hold(on), false);
            C.due("it stays stopped", t.x.tick(1), 3);
        }
    }

    private static void stopCounts() {
        C.says("Promise 12", "How many closing steps (21) were done by that");
        Told t = new Told();
        int set = t.set(0, t.number(1));
        int rest = t.pause(t.number(2));
        int node = t.closing(rest, set);
        t.x.start(rest);
        t.x.tick(1);
        C.due("none is there", t.x.stop(), 0);
        t.x.start(node);
        C.due("none is begun", t.x.stop(), 0);
        t.x.start(t.then(node, node));
        t.x.tick(1);
        C.due("one is begun", t.x.stop(), 1);
        t.x.start(t.then(node, node));
        t.x.tick(3);
        C.due("one is done, one is begun", t.x.stop(), 1);
        C.due("two in the run", t.x.closed(1), node);
        t.x.start(t.then(node, rest));
        t.x.tick(3);
        C.due("the one is done", t.x.stop(), 0);
        t.x.start(t.beside(node, t.closing(node, t.then(set, set))));
        t.x.tick(1);
        t.x.hold(true);
        C.due("three are begun, held", t.x.stop(), 3);
    }

    private static void stopRefused() {
        C.says("Promise 12", "NONE, refused, without a run, or when it has ended or is stopped");
        Told t = new Told();
        int node = t.closing(t.ask(0), t.set(0, t.number(1)));
        C.due("without a run", t.x.stop(), -1);
        C.due("still without a run", t.x.tick(1), -1);
        t.x.start(node);
        t.x.tick(1);
        C.due("stop", t.x.stop(), 1);
        C.due("stopped", t.x.stop(), -1);
        C.due("closed once", t.x.closed(1), -1);
        t.x.start(node);
        t.x.tick(1);
        t.x.answer(1);
        t.x.tick(1);
        C.due("ended", t.x.stop(), -1);
        C.due("still ended", t.x.tick(1), 1);
        C.due("closed once", t.x.closed(1), -1);
    }

    private static void closedNumbers() {
        C.says("Promise 13", "The node (21) of number k, from 0, .. whose closing steps were done in the run. NONE");
        Told t = new Told();
        int set = t.set(0, t.number(1));
        int inner = t.closing(set, set);
        int outer = t.closing(inner, set);
        C.due("without a run", t.x.closed(0), -1);
        t.x.start(outer);
        C.due("none yet", t.x.closed(0), -1);
        t.x.tick(1);
        C.due("closed(0)", t.x.closed(0), inner);
        C.due("closed(1)", t.x.closed(1), outer);
        for (int k : new int[] {-1, 2, 199, 200, LEAST, MOST}) {
            C.due("closed(" + k + ")", t.x.closed(k), -1);
        }
    }

    private static void valueNumbers() {
        C.says("Promise 14", "The value of a name; 0 when it is not 0 .. 15");
        Told t = allPlaces();
        for (int k = 0; k <= 15; k++) {
            C.due("value(" + k + ")", t.x.value(k), 200 + k);
        }
        for (int k : NO_PLACE) {
            C.due("value(" + k + ")", t.x.value(k), 0);
        }
        t.x.safe(3, 7);
        t.x.hold(true);
        C.due("a name while held", t.x.value(3), 203);
        t.x.stop();
        C.due("a name when stopped", t.x.value(15), 215);
    }

    private static void safeNumbers() {
        C.says("Promise 15", "False, refused, when it is not 0 .. 15");
        Told t = allPlaces();
        for (int k : NO_PLACE) {
            C.due("safe(" + k + ", 5)", t.x.safe(k, 5), false);
        }
        t.x.hold(true);
        for (int k = 0; k <= 15; k++) {
            C.due("none by that", t.x.output(k), 100 + k);
            C.due("safe(" + k + ")", t.x.safe(k, Long.MIN_VALUE + k), true);
            C.due("at once", t.x.output(k), Long.MIN_VALUE + k);
            C.due("another", t.x.safe(k, Long.MAX_VALUE - k), true);
            C.due("the last that was told", t.x.output(k), Long.MAX_VALUE - k);
        }
    }
}
