/** Promises 4 to 7 and 14: signal, start, tick, output, value, with what the statements do in their seconds. */
public final class WalkTest {
    private static final Checks C = new Checks("WalkTest");

    public static void main(String[] args) {
        signals();
        start();
        startAgain();
        tick();
        places();
        arithmetic();
        waits();
        untils();
        sideBySide();
        ifs();
        repeats();
        ramps();
        rampsThatWrap();
        limits();
        limitsInOrder();
        closings();
        C.end();
    }

    private static void signals() {
        Told t = new Told();
        C.due("signal(-1)", t.x.signal(-1, 1), false);
        C.due("signal(16)", t.x.signal(16, 1), false);
        for (int k = 0; k < 16; k++) {
            C.due("signal(" + k + ")", t.x.signal(k, 100 + k), true);
        }
        int all = t.set(0, t.signal(0));
        for (int k = 1; k < 16; k++) {
            all = t.then(all, t.set(k, t.signal(k)));
        }
        t.x.start(all);
        t.x.tick(1);
        for (int k = 0; k < 16; k++) {
            C.due("signals stay when a run begins", t.x.output(k), 100 + k);
        }
        t.x.signal(4, -5);
        C.due("a signal changes no output", t.x.output(4), 104);
        t.x.start(all);
        t.x.tick(1);
        C.due("the new signal", t.x.output(4), -5);
    }

    private static void start() {
        Told t = new Told();
        int e = t.number(1);
        int s = t.set(0, e);
        C.due("start(an expression)", t.x.start(e), -1);
        C.due("start(-1)", t.x.start(-1), -1);
        C.due("start(what is not there)", t.x.start(2), -1);
        C.due("no run by that", t.x.tick(0), -1);
        C.due("one statement", t.x.start(s), 1);
        C.due("if without else", t.x.start(t.when(e, s, -1)), 2);
        C.due("if with else", t.x.start(t.when(e, s, s)), 3);
        C.due("limit and handler", t.x.start(t.limit(e, s, s)), 3);
        C.due("repeat", t.x.start(t.repeat(e, s)), 2);
        C.due("closing", t.x.start(t.closing(s, s)), 3);
        C.due("side by side", t.x.start(t.beside(s, s)), 3);
        C.due("ramp", t.x.start(t.ramp(0, e, e)), 1);
        startAtTheEdge();
    }

    private static void startAtTheEdge() {
        Told t = new Told();
        int e = t.number(1);
        int one = t.set(0, e);
        int all = one;
        for (int i = 0; i < 7; i++) {
            all = t.then(all, all);
        }
        C.due("255 statements", t.x.start(all), 255);
        int more = one;
        for (int i = 0; i < 6; i++) {
            more = t.then(more, more);
        }
        int most = t.then(all, more);
        C.due("383 statements", t.x.start(most), 383);
        int small = one;
        for (int i = 0; i < 5; i++) {
            small = t.then(small, small);
        }
        most = t.then(most, small);
        int fifteen = t.then(t.then(one, one), t.then(one, one));
        fifteen = t.then(fifteen, fifteen);
        most = t.then(most, fifteen);
        int repeated = t.repeat(e, t.repeat(e, most));
        most = t.then(repeated, fifteen);
        C.due("481 statements", t.x.start(most), 481);
        most = t.then(most, t.then(t.then(one, one), t.then(one, one)));
        C.due("489 statements", t.x.start(most), 489);
        most = t.then(most, t.then(t.then(one, one), t.then(one, one)));
        C.due("497 statements", t.x.start(most), 497);
        int full = t.repeat(e, t.repeat(e, t.repeat(e, most)));
        C.due("500 statements", t.x.start(full), 500);
        C.due("501 statements", t.x.start(t.repeat(e, full)), -2);
        C.due("the refused one leaves the run", t.x.tick(1), 1);
        C.due("the output of the run", t.x.output(0), 1);
        int deep = full;
        for (int i = 0; i < 9; i++) {
            deep = t.then(deep, deep);
        }
        C.due("very many statements", t.x.start(deep), -2);
    }

    private static void startAgain() {
        Told t = new Told();
        int nine = t.number(9);
        int s = t.then(t.set(2, nine), t.let(3, nine), t.set(4, t.broken()));
        t.x.start(s);
        t.x.tick(3);
        C.due("alarm", t.x.alarm(0, 2), 1);
        C.due("output", t.x.output(2), 9);
        C.due("name", t.x.value(3), 9);
        C.due("start again", t.x.start(s), 5);
        C.due("no alarm", t.x.alarm(0, 2), -1);
        C.due("output is 0", t.x.output(2), 0);
        C.due("name is 0", t.x.value(3), 0);
        C.due("not held", t.x.tick(0), 0);
        C.due("nothing is done before the first tick", t.x.output(2), 0);
        int closes = t.closing(t.pause(nine), t.set(1, t.number(1)));
        t.x.start(closes);
        t.x.tick(20);
        C.due("closed", t.x.closed(0), closes);
        t.x.start(closes);
        C.due("no closed", t.x.closed(0), -1);
        t.x.tick(1);
        t.x.start(closes);
        C.due("a new run does no closing steps of the last", t.x.closed(0), -1);
        C.due("nor their outputs", t.x.output(1), 0);
    }

    private static void tick() {
        Told t = new Told();
        int forever = t.pause(t.number(Long.MAX_VALUE));
        int s = t.beside(forever, t.repeat(t.number(Long.MAX_VALUE),
                t.then(t.set(0, t.second()), t.pause(t.number(1)))));
        C.due("without a run", t.x.tick(5), -1);
        t.x.start(s);
        C.due("tick(0)", t.x.tick(0), 0);
        C.due("tick(-1)", t.x.tick(-1), -1);
        C.due("tick(10001)", t.x.tick(10001), -1);
        C.due("tick(least)", t.x.tick(Integer.MIN_VALUE), -1);
        C.due("nothing begun", t.x.step(0), -1);
        C.due("tick(1)", t.x.tick(1), 0);
        C.due("second 0", t.x.output(0), 0);
        C.due("tick(1)", t.x.tick(1), 0);
        C.due("second 1", t.x.output(0), 1);
        C.due("tick(10000)", t.x.tick(10000), 0);
        C.due("second 10001", t.x.output(0), 10001);
        t.x.hold(true);
        C.due("held", t.x.tick(10), 2);
        C.due("no second goes by", t.x.output(0), 10001);
        C.due("refused while held", t.x.tick(-1), -1);
        t.x.hold(false);
        C.due("goes on", t.x.tick(1), 0);
        C.due("second 10002", t.x.output(0), 10002);
        t.x.stop();
        C.due("stopped", t.x.tick(1), 3);
        C.due("refused when stopped", t.x.tick(10001), -1);
        t.x.start(t.set(1, t.number(4)));
        C.due("ended", t.x.tick(7), 1);
        C.due("stays ended", t.x.tick(0), 1);
    }

    private static void places() {
        Told t = new Told();
        int five = t.number(5);
        t.x.start(t.then(t.set(15, five), t.let(15, t.number(6)), t.set(0, t.name(15))));
        t.x.tick(1);
        C.due("output(15)", t.x.output(15), 5);
        C.due("value(15)", t.x.value(15), 6);
        C.due("output(0)", t.x.output(0), 6);
        for (int wrong : new int[] {-1, 16, Integer.MAX_VALUE, Integer.MIN_VALUE}) {
            C.due("output(" + wrong + ")", t.x.output(wrong), 0);
            C.due("value(" + wrong + ")", t.x.value(wrong), 0);
        }
    }

    private static void arithmetic() {
        long least = Long.MIN_VALUE;
        long most = Long.MAX_VALUE;
        reckoned(0, most, 1, least);
        reckoned(0, 7, -9, -2);
        reckoned(1, least, 1, most);
        reckoned(1, 7, -9, 16);
        reckoned(2, most, 2, -2);
        reckoned(2, -3, 5, -15);
        reckoned(3, 7, 2, 3);
        reckoned(3, -7, 2, -3);
        reckoned(3, 7, -2, -3);
        reckoned(3, least, -1, least);
        reckoned(4, 1, 2, 1);
        reckoned(4, 2, 2, 0);
        reckoned(4, least, most, 1);
        reckoned(4, most, least, 0);
        reckoned(5, 2, 2, 1);
        reckoned(5, least, most, 0);
    }

    private static void reckoned(int what, long a, long b, long want) {
        Told t = new Told();
        t.x.start(t.set(0, t.x.node(what, t.number(a), t.number(b), 0)));
        t.x.tick(1);
        C.due("node " + what + " of " + a + " and " + b, t.x.output(0), want);
    }

    private static void waits() {
        for (long n : new long[] {Long.MIN_VALUE, -1, 0}) {
            Told t = new Told();
            t.x.start(t.then(t.pause(t.number(n)), t.set(0, t.number(1))));
            C.due("a wait of " + n, t.x.tick(1), 1);
        }
        Told t = new Told();
        int two = t.number(2);
        t.x.start(t.then(t.pause(t.signal(0)), t.set(0, t.second()), t.pause(two), t.set(0, t.second())));
        t.x.signal(0, 3);
        t.x.tick(1);
        t.x.signal(0, 100);
        C.due("reckoned when begun", t.x.tick(2), 0);
        C.due("3 seconds are not by", t.x.output(0), 0);
        C.due("still on", t.x.tick(1), 0);
        C.due("3 seconds later", t.x.output(0), 3);
        t.x.hold(true);
        t.x.tick(100);
        t.x.hold(false);
        C.due("longer by the hold", t.x.tick(1), 0);
        C.due("2 seconds later", t.x.tick(1), 1);
        C.due("its second", t.x.output(0), 5);
    }

    private static void untils() {
        Told t = new Told();
        int u = t.until(t.signal(0));
        t.x.start(t.then(u, t.set(0, t.second())));
        C.due("not yet", t.x.tick(5), 0);
        C.due("stands", t.x.step(0), u);
        t.x.signal(0, -1);
        C.due("looked at only in a second", t.x.step(0), u);
        C.due("now", t.x.tick(1), 1);
        C.due("in second 5", t.x.output(0), 5);
        t.x.start(u);
        C.due("at once", t.x.tick(1), 1);
        // a is looked at before b lets it be, and not again in that second
        t.x.start(t.beside(t.then(t.until(t.name(1)), t.set(0, t.second())),
                t.then(t.pause(t.number(2)), t.let(1, t.number(1)))));
        C.due("b has ended", t.x.tick(3), 0);
        C.due("the name", t.x.value(1), 1);
        C.due("a ends a second later", t.x.tick(1), 1);
        C.due("in second 3", t.x.output(0), 3);
        t.x.start(t.beside(t.let(1, t.number(1)), t.until(t.name(1))));
        C.due("what a lets, b sees at once", t.x.tick(1), 1);
    }

    private static void sideBySide() {
        Told t = new Told();
        int ten = t.number(10);
        int a = t.let(0, t.plus(t.times(t.name(0), ten), t.number(1)));
        int b = t.let(0, t.plus(t.times(t.name(0), ten), t.number(2)));
        int rest = t.pause(t.number(1));
        t.x.start(t.beside(t.then(a, rest, a), t.then(b, rest, b)));
        t.x.tick(1);
        C.due("a before b", t.x.value(0), 12);
        C.due("both have ended", t.x.tick(1), 1);
        C.due("a before b again", t.x.value(0), 1212);
        t.x.start(t.then(t.beside(t.pause(t.number(2)), t.pause(t.number(5))), t.set(0, t.second())));
        C.due("not before both", t.x.tick(5), 0);
        C.due("with the later", t.x.tick(1), 1);
        C.due("in second 5", t.x.output(0), 5);
    }

    private static void ifs() {
        Told t = new Told();
        int one = t.set(0, t.number(1));
        int two = t.set(0, t.number(2));
        int s = t.when(t.signal(0), one, two);
        t.x.start(s);
        C.due("else", t.x.tick(1), 1);
        C.due("else", t.x.output(0), 2);
        t.x.signal(0, -7);
        t.x.start(s);
        C.due("then", t.x.tick(1), 1);
        C.due("then", t.x.output(0), 1);
        t.x.signal(0, 0);
        t.x.start(t.then(two, t.when(t.signal(0), one, -1)));
        C.due("no else", t.x.tick(1), 1);
        C.due("nothing", t.x.output(0), 2);
        t.x.start(t.when(t.signal(0), one, t.pause(t.number(2))));
        t.x.tick(1);
        t.x.signal(0, 1);
        C.due("is not reckoned again", t.x.tick(1), 0);
        C.due("the else has ended", t.x.tick(1), 1);
        C.due("without the other", t.x.output(0), 0);
    }

    private static void repeats() {
        Told t = new Told();
        int more = t.let(0, t.plus(t.name(0), t.number(1)));
        for (long n : new long[] {Long.MIN_VALUE, -1, 0}) {
            t.x.start(t.repeat(t.number(n), more));
            C.due("a repeat of " + n, t.x.tick(1), 1);
            C.due("none", t.x.value(0), 0);
        }
        t.x.start(t.repeat(t.number(7), more));
        C.due("a repeat of 7", t.x.tick(1), 1);
        C.due("seven", t.x.value(0), 7);
        int inner = t.repeat(t.number(2), t.then(more, t.pause(t.number(1))));
        t.x.signal(0, 3);
        t.x.start(t.repeat(t.signal(0), inner));
        t.x.tick(1);
        t.x.signal(0, 100);
        C.due("3 times 2 with waits", t.x.tick(5), 0);
        C.due("six", t.x.value(0), 6);
        C.due("over with the last wait", t.x.tick(1), 1);
        C.due("still six", t.x.value(0), 6);
    }

    private static void ramps() {
        Told t = new Told();
        int down = t.then(t.set(0, t.number(5)), t.ramp(0, t.number(-5), t.number(4)), t.set(1, t.second()));
        t.x.start(down);
        long[] want = {5, 2, 0, -3, -5};
        for (int i = 0; i < want.length; i++) {
            C.due("a ramp down", t.x.tick(1), i == 4 ? 1 : 0);
            C.due("after " + i, t.x.output(0), want[i]);
        }
        C.due("it ends in second 4", t.x.output(1), 4);
        for (long n : new long[] {0, -1, Long.MIN_VALUE}) {
            t.x.start(t.ramp(3, t.number(8), t.number(n)));
            C.due("a ramp of " + n, t.x.tick(1), 1);
            C.due("at once", t.x.output(3), 8);
        }
        t.x.signal(0, 10);
        t.x.signal(1, 2);
        t.x.start(t.beside(t.ramp(0, t.signal(0), t.signal(1)), t.then(t.pause(t.number(1)), t.set(0, t.number(99)))));
        t.x.tick(1);
        t.x.signal(0, 1000);
        t.x.signal(1, 1000);
        C.due("reckoned when begun", t.x.tick(1), 0);
        C.due("b sets behind a", t.x.output(0), 99);
        C.due("from where it was begun", t.x.tick(1), 1);
        C.due("its end", t.x.output(0), 10);
        t.x.start(t.ramp(0, t.number(100), t.number(10)));
        t.x.tick(4);
        t.x.safe(0, 7);
        t.x.hold(true);
        C.due("the safe value", t.x.output(0), 7);
        t.x.tick(5);
        t.x.hold(false);
        C.due("where it was", t.x.output(0), 30);
        t.x.tick(1);
        C.due("longer by the hold", t.x.output(0), 40);
    }

    private static void rampsThatWrap() {
        Told t = new Told();
        long least = Long.MIN_VALUE;
        long most = Long.MAX_VALUE;
        t.x.start(t.then(t.set(0, t.number(least)), t.ramp(0, t.number(most), t.number(2))));
        t.x.tick(2);
        // the difference wraps to -1, and -1 / 2 is rounded down to -1
        C.due("a difference that wraps", t.x.output(0), most);
        t.x.start(t.ramp(0, t.number(most), t.number(10)));
        t.x.tick(4);
        C.due("a product that wraps", t.x.output(0), Math.floorDiv(most * 3, 10));
        C.due("but its end is b", t.x.tick(7), 1);
        C.due("its end", t.x.output(0), most);
    }

    private static void limits() {
        Told t = new Told();
        int body = t.then(t.pause(t.number(3)), t.set(0, t.number(1)));
        int handler = t.then(t.set(1, t.second()), t.pause(t.number(2)), t.set(2, t.second()));
        int limit = t.limit(t.signal(0), body, handler);
        int all = t.then(limit, t.set(3, t.second()));
        t.x.start(all);
        C.due("passed as it is begun", t.x.tick(1), 0);
        C.due("an alarm", t.x.alarm(0, 2), 3);
        C.due("its node", t.x.alarm(0, 1), limit);
        t.x.signal(0, 1);
        C.due("no way back", t.x.tick(2), 1);
        C.due("the handler's end", t.x.output(2), 2);
        C.due("behind the limit", t.x.output(3), 2);
        C.due("not its b", t.x.output(0), 0);
        t.x.start(all);
        C.due("not passed", t.x.tick(4), 1);
        C.due("its b", t.x.output(0), 1);
        C.due("no handler", t.x.output(2), 0);
        C.due("no alarm", t.x.alarm(0, 0), -1);
        t.x.start(all);
        t.x.tick(2);
        t.x.signal(0, 0);
        C.due("passed later", t.x.tick(1), 0);
        C.due("the handler from this second on", t.x.output(1), 2);
        C.due("the alarm's second", t.x.alarm(0, 0), 2);
        C.due("is looked at no more", t.x.tick(2), 1);
        C.due("one alarm", t.x.alarm(1, 0), -1);
        // it is passed before its b goes on, in the second in which that would end
        t.x.signal(0, 1);
        t.x.start(all);
        t.x.tick(3);
        t.x.signal(0, 0);
        t.x.tick(1);
        C.due("first the limits", t.x.output(0), 0);
    }

    private static void limitsInOrder() {
        Told t = new Told();
        int rest = t.pause(t.number(50));
        int nothing = t.let(9, t.number(0));
        int inA = t.limit(t.signal(0), t.limit(t.signal(0), rest, nothing), nothing);
        int inB = t.limit(t.signal(0), rest, rest);
        t.x.signal(0, 1);
        t.x.start(t.beside(inA, inB));
        t.x.tick(1);
        t.x.signal(0, 0);
        t.x.tick(1);
        C.due("around before in it, a before b", t.x.alarm(0, 1), inA);
        C.due("what is given up is not looked at", t.x.alarm(1, 1), inB);
        C.due("no more", t.x.alarm(2, 1), -1);
        C.due("the handler stands", t.x.step(0), rest);
        // a limit that is begun in a second is looked at only by that, though a name is 0 then
        t.x.start(t.then(t.let(0, t.number(1)), t.limit(t.name(0), t.then(t.let(0, t.number(0)), rest), nothing)));
        C.due("as it is begun", t.x.tick(1), 0);
        C.due("no alarm yet", t.x.alarm(0, 0), -1);
        C.due("in the next second", t.x.tick(1), 1);
        C.due("the alarm's second", t.x.alarm(0, 0), 1);
    }

    private static void closings() {
        Told t = new Told();
        int seen = t.let(0, t.plus(t.times(t.name(0), t.number(10)), t.number(1)));
        int inner = t.closing(t.pause(t.number(1)), seen);
        int outer = t.closing(inner, t.let(0, t.plus(t.times(t.name(0), t.number(10)), t.number(2))));
        t.x.start(t.then(outer, t.set(0, t.name(0))));
        C.due("not yet", t.x.tick(1), 0);
        C.due("not yet", t.x.closed(0), -1);
        C.due("behind it", t.x.tick(1), 1);
        C.due("in their order", t.x.output(0), 12);
        C.due("the inner first", t.x.closed(0), inner);
        C.due("the outer then", t.x.closed(1), outer);
        C.due("no more", t.x.closed(2), -1);
        C.due("closed(-1)", t.x.closed(-1), -1);
    }
}
