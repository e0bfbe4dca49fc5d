/** The sentences that name an edge of what statements do in their seconds. */
public final class StatementEdgeTest {
    private static final Checks C = new Checks("StatementEdgeTest");
    private static final long LEAST = Long.MIN_VALUE;
    private static final long MOST = Long.MAX_VALUE;
    private static final long TURN = 1L << 32;
    private static final long[] LESS_THAN_ONE = {LEAST, LEAST + 1, -TURN + 1, -2, -1, 0};
    /** What an int would take for 0 is among them. */
    private static final long[] NOT_ZERO = {LEAST, -TURN, -1, 1, 2, TURN, MOST};

    public static void main(String[] args) {
        setAndLetAtTheEdges();
        waitLessThanOne();
        waitOfSome();
        waitOfVeryMany();
        waitReckonedWhenBegun();
        untilNotZero();
        untilInEachSecond();
        ifNotZero();
        ifElseNothing();
        repeatLessThanOne();
        repeatOfSome();
        repeatOfVeryMany();
        limitNotZero();
        limitPassedAsBegun();
        limitPassedInItsLastSecond();
        limitEndsWithB();
        limitEndsWithHandler();
        rampLessThanOne();
        rampOfOne();
        rampLastSecondBeforeItsEnd();
        rampRoundedDown();
        rampOfNoWay();
        rampOfVeryMany();
        rampFromItsBegin();
        rampBegunLater();
        rampPastItsEnd();
        askBehindItsAnswer();
        askedAgain();
        sideBySideEndsWithBoth();
        closingHoweverItEnds();
        closingOrder();
        C.end();
    }

    private static void setAndLetAtTheEdges() {
        C.says("Terms", "SET, LET: done at once .. 0 .. 15");
        for (int k : new int[] {0, 15}) {
            Told t = new Told();
            t.x.start(t.then(t.set(k, t.number(LEAST)), t.let(k, t.number(MOST))));
            C.due("in one second", t.x.tick(1), 1);
            for (int other = 0; other < 16; other++) {
                C.due("output " + other, t.x.output(other), other == k ? LEAST : 0);
                C.due("name " + other, t.x.value(other), other == k ? MOST : 0);
            }
        }
    }

    private static void waitLessThanOne() {
        C.says("Terms", "A WAIT of n seconds goes on n seconds later (at once for less than 1)");
        for (long n : LESS_THAN_ONE) {
            Told t = new Told();
            t.x.start(t.then(t.pause(t.number(n)), t.set(0, t.number(1)), t.pause(t.number(1))));
            t.x.tick(1);
            C.due("behind a wait of " + n, t.x.output(0), 1);
        }
    }

    private static void waitOfSome() {
        C.says("Terms", "A WAIT of n seconds goes on n seconds later");
        for (int n : new int[] {1, 2, 3, 9999, 10000}) {
            Told t = new Told();
            int rest = t.pause(t.number(n));
            t.x.start(t.then(rest, t.set(0, t.second())));
            C.due("the second before, of " + n, t.x.tick(n), 0);
            C.due("it stands", t.x.step(0), rest);
            C.due("it goes on", t.x.tick(1), 1);
            C.due("in second", t.x.output(0), n);
        }
    }

    private static void waitOfVeryMany() {
        C.says("Terms", "A WAIT of n seconds goes on n seconds later");
        for (long n : new long[] {1L << 31, TURN - 1, TURN, TURN + 1, MOST}) {
            Told t = new Told();
            t.x.start(t.pause(t.number(n)));
            C.due("a wait of " + n, t.x.tick(10000), 0);
            C.due("a wait of " + n, t.x.tick(10000), 0);
        }
    }

    private static void waitReckonedWhenBegun() {
        C.says("Terms", "What a statement needs is reckoned when it is BEGUN");
        Told t = new Told();
        t.x.signal(0, 2);
        t.x.start(t.pause(t.signal(0)));
        t.x.tick(1);
        t.x.signal(0, 0);
        C.due("2 seconds, though the signal is 0 now", t.x.tick(1), 0);
        t.x.signal(0, 9);
        C.due("2 seconds, though the signal is 9 now", t.x.tick(1), 1);
    }

    private static void untilNotZero() {
        C.says("Terms", "14 UNTIL a is not 0");
        for (long v : NOT_ZERO) {
            Told t = new Told();
            t.x.signal(0, v);
            t.x.start(t.until(t.signal(0)));
            C.due("an until begun at " + v, t.x.tick(1), 1);
            t.x.signal(0, 0);
            t.x.start(t.until(t.signal(0)));
            C.due("an until begun at 0", t.x.tick(1), 0);
            t.x.signal(0, v);
            C.due("at " + v + " in the next second", t.x.tick(1), 1);
        }
    }

    private static void untilInEachSecond() {
        C.says("Terms", "UNTIL is looked at when it is begun, and in each second again");
        Told t = new Told();
        int until = t.until(t.equal(t.second(), t.signal(0)));
        int all = t.then(t.pause(t.number(1)), until);
        t.x.signal(0, 5);
        t.x.start(all);
        C.due("not yet", t.x.tick(5), 0);
        C.due("in second 5 alone", t.x.tick(1), 1);
        t.x.signal(0, 1);
        t.x.start(all);
        t.x.tick(1);
        C.due("as it is begun", t.x.tick(1), 1);
        t.x.signal(0, 0);
        t.x.start(all);
        C.due("not before it is begun", t.x.tick(10000), 0);
    }

    private static void ifNotZero() {
        C.says("Terms", "16 IF a is not 0, b, else c");
        Told t = new Told();
        int all = t.when(t.signal(0), t.set(0, t.number(1)), t.set(0, t.number(2)));
        for (long v : NOT_ZERO) {
            t.x.signal(0, v);
            t.x.start(all);
            t.x.tick(1);
            C.due("if at " + v, t.x.output(0), 1);
        }
        t.x.signal(0, 0);
        t.x.start(all);
        t.x.tick(1);
        C.due("if at 0", t.x.output(0), 2);
        C.due("no limit is passed by that", t.x.alarm(0, 2), -1);
    }

    private static void ifElseNothing() {
        C.says("Terms", "else c (NONE: nothing)");
        Told t = new Told();
        int all = t.then(t.when(t.signal(0), t.set(0, t.number(1)), -1), t.set(1, t.number(7)));
        t.x.start(all);
        C.due("at 0 it ends at once", t.x.tick(1), 1);
        C.due("nothing", t.x.output(0), 0);
        C.due("what is behind it", t.x.output(1), 7);
        t.x.signal(0, 1);
        t.x.start(all);
        t.x.tick(1);
        C.due("at 1 it does b", t.x.output(0), 1);
    }

    private static void repeatLessThanOne() {
        C.says("Terms", "17 REPEAT b a times (none for less than 1)");
        for (long n : LESS_THAN_ONE) {
            Told t = new Told();
            t.x.start(t.then(t.repeat(t.number(n), t.set(0, t.number(1))), t.set(1, t.number(1))));
            C.due("a repeat of " + n, t.x.tick(1), 1);
            C.due("none", t.x.output(0), 0);
            C.due("what is behind it", t.x.output(1), 1);
        }
    }

    private static void repeatOfSome() {
        C.says("Terms", "17 REPEAT b a times");
        for (int n : new int[] {1, 2, 3, 500}) {
            Told t = new Told();
            int more = t.let(0, t.plus(t.name(0), t.number(1)));
            t.x.start(t.repeat(t.number(n), more));
            C.due("a repeat of " + n, t.x.tick(1), 1);
            C.due("so often", t.x.value(0), n);
            t.x.start(t.repeat(t.number(n), t.then(more, t.pause(t.number(1)))));
            C.due("with waits, the second before", t.x.tick(n), 0);
            C.due("so often", t.x.value(0), n);
            C.due("ended", t.x.tick(1), 1);
            C.due("not once more", t.x.value(0), n);
        }
    }

    private static void repeatOfVeryMany() {
        C.says("Terms", "17 REPEAT b a times");
        for (long n : new long[] {1L << 31, TURN, TURN + 1, MOST}) {
            Told t = new Told();
            int more = t.let(0, t.plus(t.name(0), t.number(1)));
            t.x.start(t.repeat(t.number(n), t.then(more, t.pause(t.number(1)))));
            C.due("a repeat of " + n, t.x.tick(10000), 0);
            C.due("as often as seconds", t.x.value(0), 10000);
        }
    }

    private static void limitNotZero() {
        C.says("Terms", "18 LIMIT a: b, as long as a is not 0");
        for (long v : NOT_ZERO) {
            Told t = new Told();
            t.x.signal(0, v);
            t.x.start(t.limit(t.signal(0), t.pause(t.number(9)), t.set(0, t.number(1))));
            C.due("a limit of " + v, t.x.tick(5), 0);
            C.due("not passed", t.x.alarm(0, 2), -1);
            t.x.signal(0, 0);
            C.due("a limit of 0", t.x.tick(1), 1);
            C.due("passed", t.x.alarm(0, 2), 3);
            C.due("its second", t.x.alarm(0, 0), 5);
            C.due("its handler", t.x.output(0), 1);
        }
    }

    private static void limitPassedAsBegun() {
        C.says("Terms", "LIMIT is looked at when it is begun: 0: it is passed");
        Told t = new Told();
        int limit = t.limit(t.signal(0), t.set(1, t.number(1)), t.set(0, t.second()));
        t.x.start(t.then(t.pause(t.number(2)), limit));
        C.due("as it is begun", t.x.tick(3), 1);
        C.due("the handler in that second", t.x.output(0), 2);
        C.due("b is not begun", t.x.output(1), 0);
        C.due("its alarm's second", t.x.alarm(0, 0), 2);
        C.due("its alarm's node", t.x.alarm(0, 1), limit);
        C.due("its alarm's kind", t.x.alarm(0, 2), 3);
        C.due("once", t.x.alarm(1, 2), -1);
    }

    private static void limitPassedInItsLastSecond() {
        C.says("Terms", "first the limits that stand are looked at .. Then all goes on");
        Told t = new Told();
        // The value is 0 in the second in which b would end, or in the one behind it.
        int limit = t.limit(t.minus(t.second(), t.signal(0)), t.pause(t.number(3)), t.set(0, t.number(1)));
        int all = t.then(t.let(0, t.number(0)), limit);
        t.x.signal(0, 3);
        t.x.start(all);
        C.due("passed in second 3", t.x.tick(4), 1);
        C.due("its handler", t.x.output(0), 1);
        t.x.signal(0, 4);
        t.x.start(all);
        C.due("over in second 3", t.x.tick(4), 1);
        C.due("no handler", t.x.output(0), 0);
        C.due("no alarm", t.x.alarm(0, 0), -1);
    }

    private static void limitEndsWithB() {
        C.says("Terms", "It ends with b, or with its handler");
        Told t = new Told();
        t.x.signal(0, 1);
        t.x.start(t.then(t.limit(t.signal(0), t.pause(t.number(2)), t.set(0, t.number(1))), t.pause(t.number(5))));
        t.x.tick(3);
        t.x.signal(0, 0);
        C.due("what is behind it has no limit", t.x.tick(4), 0);
        C.due("no alarm", t.x.alarm(0, 0), -1);
        C.due("no handler", t.x.output(0), 0);
        C.due("to its end", t.x.tick(1), 1);
    }

    private static void limitEndsWithHandler() {
        C.says("Terms", "It ends with b, or with its handler");
        Told t = new Told();
        int handler = t.pause(t.number(2));
        t.x.signal(0, 1);
        t.x.start(t.then(t.limit(t.signal(0), t.pause(t.number(9)), handler), t.set(0, t.second())));
        t.x.tick(3);
        t.x.signal(0, 0);
        t.x.tick(1);
        C.due("the handler stands", t.x.step(0), handler);
        C.due("alone", t.x.step(1), -1);
        C.due("still", t.x.tick(1), 0);
        C.due("its end", t.x.tick(1), 1);
        C.due("from second 3 on", t.x.output(0), 5);
        C.due("passed once", t.x.alarm(1, 0), -1);
    }

    private static void rampLessThanOne() {
        C.says("Terms", "where it ends (at once for n less than 1)");
        for (long n : LESS_THAN_ONE) {
            Told t = new Told();
            t.x.start(t.then(t.ramp(15, t.number(8), t.number(n)), t.set(0, t.number(1))));
            C.due("a ramp of " + n, t.x.tick(1), 1);
            C.due("its end", t.x.output(15), 8);
            C.due("what is behind it", t.x.output(0), 1);
        }
    }

    private static void rampOfOne() {
        C.says("Terms", "and b when i is n, where it ends");
        Told t = new Told();
        int ramp = t.ramp(0, t.number(8), t.number(1));
        t.x.start(t.then(t.set(0, t.number(3)), ramp, t.set(1, t.second())));
        C.due("a ramp of 1", t.x.tick(1), 0);
        C.due("v when i is 0", t.x.output(0), 3);
        C.due("it stands", t.x.step(0), ramp);
        C.due("its end", t.x.tick(1), 1);
        C.due("b when i is 1", t.x.output(0), 8);
        C.due("what is behind it, in second 1", t.x.output(1), 1);
    }

    private static void rampLastSecondBeforeItsEnd() {
        C.says("Terms", "v + (b - v) * i / n, rounded down, and b when i is n");
        Told t = new Told();
        t.x.start(t.ramp(0, t.number(10000), t.number(10000)));
        t.x.tick(1);
        C.due("i is 0", t.x.output(0), 0);
        t.x.tick(1);
        C.due("i is 1", t.x.output(0), 1);
        C.due("not yet", t.x.tick(9998), 0);
        C.due("i is n - 1", t.x.output(0), 9999);
        C.due("its end", t.x.tick(1), 1);
        C.due("i is n", t.x.output(0), 10000);
    }

    private static void rampRoundedDown() {
        C.says("Terms", "v + (b - v) * i / n, rounded down");
        ramped(0, 2, 3, new long[] {0, 0, 1, 2});
        ramped(0, -2, 3, new long[] {0, -1, -2, -2});
        ramped(-1, 1, 4, new long[] {-1, -1, 0, 0, 1});
        ramped(1, -1, 4, new long[] {1, 0, 0, -1, -1});
        ramped(-5, -6, 3, new long[] {-5, -6, -6, -6});
        ramped(0, 4, 2, new long[] {0, 2, 4});
        ramped(0, -4, 2, new long[] {0, -2, -4});
        C.says("Terms", "limits, differences and products of a ramp that pass a long are wrapped");
        ramped(0, MOST, 3, new long[] {0, MOST / 3, -1, MOST});
        ramped(0, MOST / 2, 3, new long[] {0, MOST / 6, MOST / 3, MOST / 2});
        ramped(0, MOST / 2 + 1, 3, new long[] {0, MOST / 6, Math.floorDiv(LEAST, 3L), MOST / 2 + 1});
        ramped(-1, MOST - 1, 2, new long[] {-1, MOST / 2 - 1, MOST - 1});
        ramped(-1, MOST, 2, new long[] {-1, LEAST / 2 - 1, MOST});
        ramped(LEAST, MOST, 2, new long[] {LEAST, MOST, MOST});
        ramped(MOST, LEAST, 2, new long[] {MOST, MOST, LEAST});
    }

    private static void ramped(long from, long to, long n, long[] want) {
        Told t = new Told();
        t.x.start(t.then(t.set(0, t.number(from)), t.ramp(0, t.number(to), t.number(n))));
        for (int i = 0; i < want.length; i++) {
            C.due("tick(1)", t.x.tick(1), i == n ? 1 : 0);
            C.due("a ramp from " + from + " to " + to + " in " + n + " after " + i, t.x.output(0), want[i]);
        }
    }

    private static void rampOfNoWay() {
        C.says("Terms", "and b when i is n, where it ends");
        ramped(7, 7, 3, new long[] {7, 7, 7, 7});
        ramped(LEAST, LEAST, 2, new long[] {LEAST, LEAST, LEAST});
        ramped(MOST, MOST, 2, new long[] {MOST, MOST, MOST});
    }

    private static void rampOfVeryMany() {
        C.says("Terms", "v + (b - v) * i / n, rounded down");
        for (long n : new long[] {1L << 31, TURN, TURN + 1, MOST}) {
            Told t = new Told();
            t.x.start(t.beside(t.ramp(0, t.number(2), t.number(n)), t.ramp(1, t.number(-2), t.number(n))));
            C.due("a ramp of " + n, t.x.tick(10000), 0);
            C.due("not a whole step up", t.x.output(0), 0);
            C.due("a whole step down", t.x.output(1), -1);
        }
    }

    private static void rampFromItsBegin() {
        C.says("Terms", "with the output's value v as it was begun");
        Told t = new Told();
        int other = t.then(t.pause(t.number(1)), t.set(0, t.number(900)));
        t.x.signal(0, 40);
        t.x.start(t.beside(other, t.then(t.set(0, t.number(20)), t.ramp(0, t.signal(0), t.number(4)))));
        t.x.tick(1);
        C.due("v", t.x.output(0), 20);
        t.x.signal(0, 1000);
        t.x.tick(1);
        C.due("what a set is gone by the ramp in b", t.x.output(0), 25);
        t.x.tick(2);
        C.due("i is 3", t.x.output(0), 35);
        C.due("its end", t.x.tick(1), 1);
        C.due("b as it was begun", t.x.output(0), 40);
    }

    private static void rampBegunLater() {
        C.says("Terms", "i seconds after it was begun");
        Told t = new Told();
        int up = t.then(t.pause(t.number(3)), t.set(0, t.number(1)), t.ramp(0, t.number(5), t.number(2)));
        t.x.start(t.repeat(t.number(2), up));
        long[] want = {0, 0, 0, 1, 3, 5, 5, 5, 1, 3, 5};
        for (int i = 0; i < want.length; i++) {
            C.due("tick(1)", t.x.tick(1), i == 10 ? 1 : 0);
            C.due("the ramp in second " + i, t.x.output(0), want[i]);
        }
    }

    private static void rampPastItsEnd() {
        C.says("Terms", "what is behind it in this second is not done, the second is over");
        Told t = new Told();
        // In second 2, in which the ramp would end, a fault in a cuts it off.
        int bad = t.then(t.pause(t.number(2)), t.set(1, t.over(t.number(6), t.signal(0))));
        t.x.start(t.beside(bad, t.ramp(0, t.number(10), t.number(2))));
        C.due("held", t.x.tick(9), 2);
        C.due("i was 1", t.x.output(0), 5);
        t.x.signal(0, 1);
        t.x.hold(false);
        C.due("it ends behind its end", t.x.tick(1), 1);
        C.due("with b", t.x.output(0), 10);
    }

    private static void askBehindItsAnswer() {
        C.says("Terms", "An ASK goes on in the second behind its answer");
        Told t = new Told();
        int ask = t.ask(15);
        t.x.start(t.then(ask, t.set(0, t.second())));
        C.due("not without an answer", t.x.tick(10000), 0);
        t.x.answer(0);
        C.due("not in no second", t.x.tick(0), 0);
        C.due("it stands", t.x.step(0), ask);
        C.due("it goes on", t.x.tick(1), 1);
        C.due("in the second behind", t.x.output(0), 10000);
    }

    private static void askedAgain() {
        C.says("Terms", "An ASK goes on in the second behind its answer");
        Told t = new Told();
        int all = t.repeat(t.number(2), t.ask(0));
        for (int run = 0; run < 2; run++) {
            t.x.start(all);
            for (int round = 0; round < 2; round++) {
                C.due("the answer of before is not for it", t.x.tick(2), 0);
                C.due("an answer of its own", t.x.answer(round), true);
                C.due("no other", t.x.answer(9), false);
            }
            C.due("both are answered", t.x.tick(1), 1);
        }
    }

    private static void sideBySideEndsWithBoth() {
        C.says("Terms", "SIDE BY SIDE ends when both have");
        int[][] waits = {{0, 0}, {0, 1}, {1, 0}, {1, 1}, {2, 5}, {5, 2}};
        for (int[] wait : waits) {
            Told t = new Told();
            int both = t.beside(t.pause(t.number(wait[0])), t.pause(t.number(wait[1])));
            t.x.start(t.then(both, t.set(0, t.second())));
            int later = Math.max(wait[0], wait[1]);
            C.due("not before both", t.x.tick(later), 0);
            C.due("with the later", t.x.tick(1), 1);
            C.due("in its second", t.x.output(0), later);
        }
    }

    private static void closingHoweverItEnds() {
        C.says("Terms", "21 a, and behind it, however it ends, b");
        Told t = new Told();
        int node = t.closing(t.pause(t.number(3)), t.set(0, t.number(1)));
        int all = t.limit(t.signal(0), node, t.set(1, t.number(1)));
        t.x.signal(0, 1);
        t.x.start(all);
        t.x.tick(3);
        C.due("not before it ends", t.x.output(0), 0);
        C.due("it ends", t.x.tick(1), 1);
        C.due("behind its end", t.x.output(0), 1);
        t.x.start(all);
        t.x.tick(3);
        t.x.signal(0, 0);
        C.due("it is given up", t.x.tick(1), 1);
        C.due("behind that", t.x.output(0), 1);
        C.due("once", t.x.closed(1), -1);
        t.x.signal(0, 1);
        t.x.start(all);
        C.due("it is stopped before it is begun", t.x.stop(), 0);
        C.due("no closing steps", t.x.output(0), 0);
        t.x.start(all);
        t.x.tick(1);
        C.due("it is stopped", t.x.stop(), 1);
        C.due("closing steps", t.x.output(0), 1);
    }

    private static void closingOrder() {
        C.says("Terms", "what is in it before what is around, of parts side by side those of a before those of b");
        Told t = new Told();
        int rest = t.pause(t.number(9));
        int inA = t.closing(rest, mark(t, 1));
        int aroundA = t.closing(inA, mark(t, 2));
        int inB = t.closing(rest, mark(t, 3));
        int around = t.closing(t.beside(aroundA, inB), mark(t, 4));
        int limit = t.limit(t.signal(0), around, mark(t, 5));
        t.x.signal(0, 1);
        t.x.start(limit);
        t.x.tick(1);
        t.x.signal(0, 0);
        t.x.tick(1);
        C.due("all of them, and the handler", t.x.value(0), 12345);
        int[] want = {inA, aroundA, inB, around, -1};
        for (int k = 0; k < want.length; k++) {
            C.due("closed(" + k + ")", t.x.closed(k), want[k]);
        }
    }

    private static int mark(Told t, int digit) {
        return t.let(0, t.plus(t.times(t.name(0), t.number(10)), t.number(digit)));
    }
}
