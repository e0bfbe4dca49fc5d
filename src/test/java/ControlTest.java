/** Promises 8, 10 to 13 and 15: step, answer, hold, stop, closed, safe. */
public final class ControlTest {
    private static final Checks C = new Checks("ControlTest");

    public static void main(String[] args) {
        steps();
        stepsInTheOrderOfTheText();
        answers();
        answersInOrder();
        answerWhileHeld();
        holds();
        safes();
        stops();
        stopInOrder();
        stopCountsAll();
        stopBeforeTheFirstTick();
        stopWhileHeld();
        C.end();
    }

    private static void steps() {
        Told t = new Told();
        int two = t.number(2);
        int rest = t.pause(two);
        int until = t.until(t.signal(0));
        int ramp = t.ramp(0, two, two);
        int ask = t.ask(0);
        int all = t.then(rest, until, ramp, ask);
        C.due("without a run", t.x.step(0), -1);
        t.x.start(all);
        C.due("before the first tick", t.x.step(0), -1);
        t.x.tick(1);
        C.due("a wait", t.x.step(0), rest);
        C.due("one only", t.x.step(1), -1);
        C.due("step(-1)", t.x.step(-1), -1);
        C.due("step(most)", t.x.step(Integer.MAX_VALUE), -1);
        t.x.tick(2);
        C.due("an until", t.x.step(0), until);
        t.x.signal(0, 1);
        t.x.tick(1);
        C.due("a ramp", t.x.step(0), ramp);
        t.x.hold(true);
        C.due("while held too", t.x.step(0), ramp);
        t.x.hold(false);
        t.x.tick(2);
        C.due("an ask", t.x.step(0), ask);
        t.x.answer(5);
        C.due("until it goes on", t.x.step(0), ask);
        C.due("ended", t.x.tick(1), 1);
        C.due("when ended", t.x.step(0), -1);
        t.x.start(all);
        t.x.tick(1);
        t.x.stop();
        C.due("when stopped", t.x.step(0), -1);
    }

    private static void stepsInTheOrderOfTheText() {
        Told t = new Told();
        int rest = t.pause(t.number(5));
        int ask = t.ask(1);
        int until = t.until(t.signal(1));
        int late = t.then(t.pause(t.number(1)), t.beside(ask, rest));
        t.x.signal(0, 1);
        t.x.start(t.beside(t.beside(late, until), t.limit(t.signal(0), t.repeat(t.number(2), rest), ask)));
        t.x.tick(2);
        int[] want = {ask, rest, until, rest, -1};
        for (int i = 0; i < want.length; i++) {
            C.due("step " + i, t.x.step(i), want[i]);
        }
        t.x.signal(0, 0);
        t.x.tick(1);
        C.due("given up", t.x.step(3), ask);
        C.due("no more", t.x.step(4), -1);
    }

    private static void answers() {
        Told t = new Told();
        t.x.start(t.then(t.ask(15), t.set(0, t.plus(t.name(15), t.second())), t.ask(0)));
        C.due("before it is begun", t.x.answer(1), false);
        C.due("no value", t.x.value(15), 0);
        t.x.tick(3);
        C.due("it stands", t.x.answer(Long.MIN_VALUE), true);
        C.due("the name at once", t.x.value(15), Long.MIN_VALUE);
        C.due("once only", t.x.answer(1), false);
        C.due("not by that", t.x.value(15), Long.MIN_VALUE);
        C.due("not before a second", t.x.output(0), 0);
        C.due("in the second behind it", t.x.tick(1), 0);
        C.due("in second 3", t.x.output(0), Long.MIN_VALUE + 3);
        C.due("the other", t.x.answer(4), true);
        C.due("ended", t.x.tick(1), 1);
        C.due("when ended", t.x.answer(4), false);
        t.x.start(t.repeat(t.number(2), t.ask(2)));
        t.x.tick(1);
        t.x.answer(5);
        C.due("asked again", t.x.tick(1), 0);
        C.due("answered again", t.x.answer(6), true);
        C.due("ended", t.x.tick(1), 1);
        C.due("the last answer", t.x.value(2), 6);
        t.x.start(t.ask(2));
        t.x.tick(1);
        t.x.stop();
        C.due("when stopped", t.x.answer(6), false);
    }

    private static void answersInOrder() {
        Told t = new Told();
        int late = t.then(t.pause(t.number(1)), t.ask(0));
        t.x.start(t.beside(late, t.beside(t.ask(1), t.ask(2))));
        t.x.tick(1);
        C.due("the first that stands", t.x.answer(11), true);
        C.due("is of name 1", t.x.value(1), 11);
        t.x.tick(1);
        C.due("now name 0 is before name 2", t.x.answer(10), true);
        C.due("name 0", t.x.value(0), 10);
        C.due("the last", t.x.answer(12), true);
        C.due("name 2", t.x.value(2), 12);
        C.due("no more", t.x.answer(13), false);
        C.due("all go on", t.x.tick(1), 1);
    }

    private static void answerWhileHeld() {
        Told t = new Told();
        t.x.start(t.ask(3));
        t.x.tick(1);
        t.x.hold(true);
        C.due("held", t.x.answer(1), false);
        C.due("no value", t.x.value(3), 0);
        t.x.hold(false);
        C.due("not held", t.x.answer(1), true);
        t.x.hold(true);
        C.due("held", t.x.tick(4), 2);
        t.x.hold(false);
        C.due("it stays answered", t.x.tick(1), 1);
    }

    private static void holds() {
        Told t = new Told();
        t.x.start(t.pause(t.number(1)));
        C.due("goes on already", t.x.hold(false), false);
        C.due("held before the first tick", t.x.hold(true), true);
        C.due("held already", t.x.hold(true), false);
        C.due("no second goes by", t.x.tick(5), 2);
        C.due("nothing is begun", t.x.step(0), -1);
        C.due("goes on", t.x.hold(false), true);
        C.due("goes on", t.x.tick(1), 0);
        C.due("ends", t.x.tick(1), 1);
        C.due("when ended", t.x.hold(true), false);
        C.due("when ended", t.x.hold(false), false);
        C.due("still ended", t.x.tick(1), 1);
        t.x.start(t.pause(t.number(1)));
        t.x.stop();
        C.due("when stopped", t.x.hold(true), false);
        C.due("still stopped", t.x.tick(1), 3);
    }

    private static void safes() {
        Told t = new Told();
        C.due("safe(-1)", t.x.safe(-1, 1), false);
        C.due("safe(16)", t.x.safe(16, 1), false);
        C.due("safe(0)", t.x.safe(0, 70), true);
        C.due("safe(15)", t.x.safe(15, 0), true);
        C.due("without a run", t.x.output(0), 0);
        int five = t.number(5);
        int all = t.then(t.then(t.set(0, five), t.set(15, five)), t.then(t.set(1, five), t.pause(five)));
        t.x.start(all);
        t.x.tick(1);
        C.due("not held", t.x.output(0), 5);
        t.x.hold(true);
        C.due("held", t.x.output(0), 70);
        C.due("a safe value of 0", t.x.output(15), 0);
        C.due("none", t.x.output(1), 5);
        C.due("output(16)", t.x.output(16), 0);
        C.due("another", t.x.safe(0, 71), true);
        C.due("held", t.x.output(0), 71);
        t.x.hold(false);
        C.due("goes on", t.x.output(0), 5);
        t.x.hold(true);
        t.x.stop();
        C.due("stopped, and held no more", t.x.output(0), 5);
        t.x.start(all);
        t.x.tick(1);
        t.x.hold(true);
        C.due("a new run keeps safe values", t.x.output(0), 71);
    }

    private static void stops() {
        Told t = new Told();
        int rest = t.pause(t.number(2));
        int node = t.closing(rest, t.set(0, t.number(1)));
        t.x.start(t.then(node, node));
        t.x.tick(1);
        C.due("one closing", t.x.stop(), 1);
        C.due("its node", t.x.closed(0), node);
        C.due("no more", t.x.closed(1), -1);
        C.due("done", t.x.output(0), 1);
        C.due("again", t.x.stop(), -1);
        C.due("closed stays", t.x.closed(0), node);
        t.x.start(node);
        t.x.tick(3);
        C.due("when ended", t.x.stop(), -1);
        t.x.start(t.then(node, node));
        t.x.tick(3);
        C.due("those done before do not count", t.x.stop(), 1);
        C.due("but are closed", t.x.closed(1), node);
        t.x.start(rest);
        t.x.tick(1);
        C.due("none", t.x.stop(), 0);
    }

    private static void stopInOrder() {
        Told t = new Told();
        int rest = t.pause(t.number(9));
        int ten = t.number(10);
        int[] nodes = new int[5];
        int[] marks = new int[5];
        for (int i = 0; i < 5; i++) {
            marks[i] = t.let(0, t.plus(t.times(t.name(0), ten), t.number(i + 1)));
        }
        nodes[0] = t.closing(rest, marks[0]);
        nodes[1] = t.closing(nodes[0], marks[1]);
        nodes[2] = t.closing(rest, marks[2]);
        nodes[3] = t.closing(t.beside(nodes[1], nodes[2]), marks[3]);
        nodes[4] = t.closing(t.limit(t.number(1), t.repeat(ten, t.when(ten, nodes[3], rest)), rest), marks[4]);
        t.x.start(nodes[4]);
        t.x.tick(1);
        C.due("all five", t.x.stop(), 5);
        C.due("in it before around, a before b", t.x.value(0), 12345);
        for (int i = 0; i < 5; i++) {
            C.due("closed " + i, t.x.closed(i), nodes[i]);
        }
    }

    private static void stopCountsAll() {
        Told t = new Told();
        int last = t.set(0, t.second());
        int deep = t.pause(t.number(9));
        for (int i = 0; i < 24; i++) {
            deep = t.closing(deep, last);
        }
        // 49 statements each, with 24 closings
        int two = t.beside(deep, deep);
        int four = t.beside(two, two);
        int eight = t.beside(four, four);
        C.due("399 statements", t.x.start(eight), 399);
        t.x.tick(1);
        C.due("192 closings", t.x.stop(), 192);
        int all = t.beside(eight, two);
        C.due("499 statements", t.x.start(all), 499);
        t.x.tick(1);
        C.due("240 closings, though 200 are told", t.x.stop(), 240);
        C.due("closing steps in the second behind the last", t.x.output(0), 1);
        C.due("the last told", t.x.closed(199) >= 0, true);
        C.due("no more told", t.x.closed(200), -1);
    }

    private static void stopBeforeTheFirstTick() {
        Told t = new Told();
        t.x.start(t.closing(t.set(0, t.number(1)), t.set(1, t.number(1))));
        C.due("nothing is begun", t.x.stop(), 0);
        C.due("nothing is done", t.x.output(1), 0);
        C.due("stopped", t.x.tick(1), 3);
    }

    private static void stopWhileHeld() {
        Told t = new Told();
        int division = t.broken();
        int bad = t.closing(t.pause(t.number(9)), t.set(0, division));
        int good = t.closing(t.pause(t.number(9)), t.set(1, t.number(1)));
        t.x.start(t.beside(bad, good));
        t.x.tick(2);
        t.x.hold(true);
        C.due("both, though one faults", t.x.stop(), 2);
        C.due("the fault", t.x.alarm(0, 1), division);
        C.due("its kind", t.x.alarm(0, 2), 1);
        C.due("the other", t.x.output(1), 1);
        C.due("stopped, not held", t.x.tick(1), 3);
    }
}
