/** Promise 9, alarm, with the faults of the document: divisions by 0, too many statements, limits passed. */
public final class FaultTest {
    private static final Checks C = new Checks("FaultTest");

    public static void main(String[] args) {
        alarms();
        whichDivision();
        begunAgain();
        untilLookedAtAgain();
        limitLookedAtAgain();
        limitBegunAgain();
        whatIsBehind();
        secondsOfFaults();
        tooMany();
        tooManyCountsEachSecond();
        tooManyInRepeat();
        closingStepsOnTheirWay();
        closingStepsGivenUp();
        closingStepsDoNotCount();
        fromWhereTheyStand();
        handlerAfterFault();
        first200();
        C.end();
    }

    private static void alarms() {
        Told t = new Told();
        int division = t.broken();
        t.x.start(t.then(t.pause(t.number(3)), t.set(0, division)));
        C.due("held", t.x.tick(10), 2);
        C.due("its second", t.x.alarm(0, 0), 3);
        C.due("its node", t.x.alarm(0, 1), division);
        C.due("its kind", t.x.alarm(0, 2), 1);
        C.due("alarm(0, -1)", t.x.alarm(0, -1), -1);
        C.due("alarm(0, 3)", t.x.alarm(0, 3), -1);
        C.due("alarm(1, 0)", t.x.alarm(1, 0), -1);
        C.due("alarm(-1, 0)", t.x.alarm(-1, 0), -1);
        C.due("alarm(most, 0)", t.x.alarm(Integer.MAX_VALUE, 0), -1);
        t.x.stop();
        C.due("alarms stay behind a stop", t.x.alarm(0, 2), 1);
    }

    private static void whichDivision() {
        Told t = new Told();
        int zero = t.number(0);
        int inA = t.over(t.number(1), zero);
        int inB = t.over(t.number(2), zero);
        int around = t.over(t.plus(inA, inB), zero);
        t.x.start(t.set(0, around));
        t.x.tick(1);
        C.due("a before b before what is around", t.x.alarm(0, 1), inA);
        C.due("one alarm", t.x.alarm(1, 1), -1);
        t.x.start(t.ramp(0, inB, inA));
        t.x.tick(1);
        C.due("the ramp's goal before its seconds", t.x.alarm(0, 1), inB);
        t.x.start(t.when(inB, t.set(0, zero), -1));
        C.due("in an if", t.x.tick(1), 2);
        t.x.start(t.repeat(inB, t.set(0, zero)));
        C.due("in a repeat", t.x.tick(1), 2);
        t.x.start(t.let(0, inB));
        C.due("in a let", t.x.tick(1), 2);
        int times = t.times(zero, inB);
        t.x.start(t.set(0, times));
        C.due("0 times a fault", t.x.tick(1), 2);
    }

    private static void begunAgain() {
        Told t = new Told();
        int rest = t.pause(t.over(t.number(6), t.signal(0)));
        t.x.start(t.then(t.set(0, t.number(1)), rest));
        C.due("held", t.x.tick(1), 2);
        C.due("what was before is done", t.x.output(0), 1);
        C.due("it was not begun", t.x.step(0), -1);
        C.due("goes on", t.x.hold(false), true);
        C.due("held again", t.x.tick(1), 2);
        C.due("another alarm", t.x.alarm(1, 0), 1);
        t.x.signal(0, 3);
        t.x.hold(false);
        C.due("begun in second 2", t.x.tick(2), 0);
        C.due("stands", t.x.step(0), rest);
        C.due("2 seconds later", t.x.tick(1), 1);
    }

    private static void untilLookedAtAgain() {
        Told t = new Told();
        int goal = t.over(t.less(t.number(2), t.second()), t.signal(0));
        int until = t.until(goal);
        t.x.signal(0, 1);
        t.x.start(t.then(until, t.set(0, t.second())));
        C.due("stands", t.x.tick(2), 0);
        t.x.signal(0, 0);
        C.due("a look that faults", t.x.tick(5), 2);
        C.due("its second", t.x.alarm(0, 0), 2);
        C.due("it stands all the same", t.x.step(0), until);
        t.x.hold(false);
        t.x.signal(0, 1);
        C.due("looked at again", t.x.tick(1), 1);
        C.due("in second 3", t.x.output(0), 3);
        // 1 + 1 / 0 is a fault, and no value that is not 0
        Told u = new Told();
        u.x.start(u.until(u.plus(u.number(1), u.over(u.number(1), u.signal(0)))));
        C.due("a fault in an until", u.x.tick(1), 2);
        u.x.signal(0, 1);
        u.x.start(u.until(u.plus(u.number(-1), u.over(u.number(1), u.signal(0)))));
        u.x.tick(1);
        u.x.signal(0, 0);
        C.due("and in a later look", u.x.tick(1), 2);
        u.x.signal(0, 1);
        u.x.hold(false);
        C.due("it has not ended by that", u.x.tick(1), 0);
    }

    private static void limitLookedAtAgain() {
        Told t = new Told();
        int limit = t.limit(t.over(t.number(5), t.signal(0)), t.then(t.pause(t.number(2)), t.set(0, t.second())),
                t.set(1, t.second()));
        t.x.signal(0, 1);
        t.x.start(limit);
        t.x.tick(2);
        t.x.signal(0, 0);
        C.due("a look that faults", t.x.tick(1), 2);
        C.due("a division", t.x.alarm(0, 2), 1);
        C.due("nothing goes on", t.x.output(0), 0);
        t.x.hold(false);
        t.x.signal(0, 10);
        C.due("passed by the next look", t.x.tick(1), 1);
        C.due("its alarm", t.x.alarm(1, 2), 3);
        C.due("its second", t.x.alarm(1, 0), 3);
        C.due("the handler", t.x.output(1), 3);
        C.due("not its b", t.x.output(0), 0);
    }

    private static void limitBegunAgain() {
        Told t = new Told();
        int first = t.limit(t.signal(1), t.pause(t.number(9)), t.set(0, t.number(1)));
        int second = t.limit(t.over(t.number(5), t.signal(0)), t.pause(t.number(9)), t.set(1, t.number(1)));
        t.x.start(t.beside(second, first));
        C.due("a begin that faults", t.x.tick(1), 2);
        C.due("nothing stands", t.x.step(0), -1);
        t.x.hold(false);
        t.x.signal(0, 1);
        C.due("begun again", t.x.tick(1), 0);
        C.due("b passed as it was begun", t.x.alarm(1, 1), first);
        C.due("b's handler", t.x.output(0), 1);
        C.due("a stands", t.x.step(1), -1);
    }

    private static void whatIsBehind() {
        Told t = new Told();
        int bad = t.then(t.pause(t.number(1)), t.set(0, t.over(t.number(1), t.signal(0))));
        int count = t.repeat(t.number(9), t.then(t.set(1, t.second()), t.pause(t.number(1))));
        int early = t.repeat(t.number(9), t.then(t.set(2, t.second()), t.pause(t.number(1))));
        int ramp = t.ramp(3, t.number(8), t.number(2));
        t.x.start(t.beside(early, t.beside(bad, t.beside(count, ramp))));
        C.due("held in second 1", t.x.tick(5), 2);
        C.due("before it", t.x.output(2), 1);
        C.due("behind it", t.x.output(1), 0);
        C.due("the ramp behind it", t.x.output(3), 0);
        t.x.signal(0, 1);
        t.x.hold(false);
        t.x.tick(1);
        C.due("before it", t.x.output(2), 2);
        C.due("behind it", t.x.output(1), 2);
        C.due("the ramp's seconds went by", t.x.output(3), 8);
    }

    private static void secondsOfFaults() {
        Told t = new Told();
        t.x.start(t.set(0, t.over(t.number(1), t.signal(0))));
        for (int i = 0; i < 4; i++) {
            C.due("held", t.x.tick(1), 2);
            C.due("its second", t.x.alarm(i, 0), i);
            t.x.hold(false);
        }
    }

    private static void tooMany() {
        Told t = new Told();
        int more = t.let(0, t.plus(t.name(0), t.number(1)));
        t.x.start(t.repeat(t.number(999), more));
        C.due("1,000 statements", t.x.tick(1), 1);
        C.due("all of them", t.x.value(0), 999);
        t.x.start(t.repeat(t.number(1000), more));
        C.due("1,001 statements", t.x.tick(1), 2);
        C.due("the last is not begun", t.x.value(0), 999);
        C.due("its node", t.x.alarm(0, 1), more);
        C.due("its kind", t.x.alarm(0, 2), 2);
        C.due("its second", t.x.alarm(0, 0), 0);
        t.x.hold(false);
        C.due("the last in the next second", t.x.tick(1), 1);
        C.due("all of them", t.x.value(0), 1000);
        // at the edge a statement that would fault is not begun at all
        int bad = t.set(0, t.broken());
        t.x.start(t.then(t.repeat(t.number(997), more), bad));
        t.x.tick(1);
        C.due("then, repeat, 997, and the 1,000th", t.x.alarm(0, 2), 1);
        t.x.start(t.then(t.repeat(t.number(998), more), bad));
        t.x.tick(1);
        C.due("it is the 1,001st", t.x.alarm(0, 1), bad);
        C.due("its kind", t.x.alarm(0, 2), 2);
    }

    private static void tooManyCountsEachSecond() {
        Told t = new Told();
        int more = t.let(0, t.plus(t.name(0), t.number(1)));
        int block = t.then(t.repeat(t.number(990), more), t.pause(t.number(1)));
        t.x.start(t.repeat(t.number(5), block));
        C.due("5 seconds of 993 and 994", t.x.tick(6), 1);
        C.due("all of them", t.x.value(0), 4950);
        int look = t.until(t.signal(0));
        t.x.start(look);
        C.due("looks do not count", t.x.tick(2000), 0);
    }

    private static void tooManyInRepeat() {
        Told t = new Told();
        int inner = t.repeat(t.number(0), t.set(0, t.number(1)));
        int outer = t.repeat(t.number(Long.MAX_VALUE), inner);
        t.x.start(outer);
        for (int i = 0; i < 5; i++) {
            C.due("held", t.x.tick(10000), 2);
            C.due("an inner repeat", t.x.alarm(i, 1), inner);
            C.due("hold(false)", t.x.hold(false), true);
        }
        // a wait that ends makes a round without a begin
        int rest = t.then(t.pause(t.number(1)), t.let(1, t.plus(t.name(1), t.number(1))));
        t.x.start(t.repeat(t.number(3), rest));
        C.due("three rounds", t.x.tick(4), 1);
        C.due("three", t.x.value(1), 3);
        t.x.start(t.repeat(t.number(2000), t.pause(t.less(t.second(), t.number(1)))));
        t.x.tick(1);
        C.due("the end of a wait and 1,001 begins", t.x.tick(1), 2);
        C.due("one too many", t.x.alarm(0, 2), 2);
    }

    private static void closingStepsOnTheirWay() {
        Told t = new Told();
        int node = t.closing(t.set(0, t.number(1)),
                t.then(t.set(1, t.second()), t.set(2, t.over(t.number(4), t.signal(0)))));
        t.x.start(node);
        C.due("a fault there holds", t.x.tick(1), 2);
        C.due("they are not done", t.x.closed(0), -1);
        t.x.signal(0, 2);
        t.x.hold(false);
        C.due("they go on", t.x.tick(1), 1);
        C.due("not from their begin", t.x.output(1), 0);
        C.due("to their end", t.x.output(2), 2);
        C.due("closed", t.x.closed(0), node);
        int more = t.let(0, t.plus(t.name(0), t.number(1)));
        int last = t.set(3, t.number(7));
        t.x.start(t.closing(t.repeat(t.number(998), more), last));
        C.due("they count there", t.x.tick(1), 2);
        C.due("the statement that was not begun", t.x.alarm(0, 1), last);
    }

    private static void closingStepsGivenUp() {
        Told t = new Told();
        int division = t.broken();
        int rest = t.pause(t.number(9));
        int inner = t.closing(rest, t.then(t.then(t.set(0, t.number(1)), t.set(1, division)), t.set(2, t.number(1))));
        int outer = t.closing(inner, t.set(3, t.second()));
        int handler = t.then(t.set(4, t.second()), t.pause(t.number(1)));
        int limit = t.limit(t.signal(0), outer, handler);
        t.x.signal(0, 1);
        t.x.start(limit);
        t.x.tick(2);
        t.x.signal(0, 0);
        C.due("does not hold", t.x.tick(1), 0);
        C.due("first the limit", t.x.alarm(0, 1), limit);
        C.due("then the division", t.x.alarm(1, 1), division);
        C.due("its kind", t.x.alarm(1, 2), 1);
        C.due("its second", t.x.alarm(1, 0), 2);
        C.due("what was before it", t.x.output(0), 1);
        C.due("not what was behind it", t.x.output(2), 0);
        C.due("those around are done", t.x.output(3), 2);
        C.due("the handler too", t.x.output(4), 2);
        C.due("what is in it first", t.x.closed(0), inner);
        C.due("then what is around", t.x.closed(1), outer);
        C.due("ended", t.x.tick(1), 1);
        C.due("once each", t.x.closed(2), -1);
    }

    private static void closingStepsDoNotCount() {
        Told t = new Told();
        int more = t.let(0, t.plus(t.name(0), t.number(1)));
        int many = more;
        for (int i = 0; i < 7; i++) {
            many = t.then(many, many);
        }
        int guarded = t.closing(t.pause(t.number(9)), many);
        int limit = t.limit(t.signal(0), guarded, t.repeat(t.number(998), t.set(1, t.number(1))));
        t.x.signal(0, 1);
        t.x.start(limit);
        t.x.tick(1);
        t.x.signal(0, 0);
        C.due("255 closing steps and 999 others", t.x.tick(1), 1);
        C.due("all closing steps", t.x.value(0), 128);
    }

    private static void fromWhereTheyStand() {
        Told t = new Told();
        int count = t.let(0, t.plus(t.name(0), t.number(1)));
        int bad = t.set(0, t.over(t.number(1), t.signal(1)));
        int node = t.closing(t.set(1, t.number(1)), t.then(count, bad, count));
        int limit = t.limit(t.signal(0), node, t.set(2, t.number(1)));
        t.x.signal(0, 1);
        t.x.start(limit);
        C.due("held in closing steps", t.x.tick(1), 2);
        C.due("one was done", t.x.value(0), 1);
        t.x.hold(false);
        t.x.signal(0, 0);
        t.x.signal(1, 1);
        C.due("given up in them", t.x.tick(1), 1);
        C.due("not the first again", t.x.value(0), 2);
        C.due("the bad one now", t.x.output(0), 1);
        C.due("closed once", t.x.closed(0), node);
        C.due("closed once", t.x.closed(1), -1);
        t.x.signal(0, 1);
        t.x.signal(1, 0);
        t.x.start(limit);
        t.x.tick(1);
        C.due("a stop does them too", t.x.stop(), 1);
        C.due("the fault again", t.x.alarm(1, 2), 1);
        C.due("that ends them", t.x.value(0), 1);
    }

    private static void handlerAfterFault() {
        Told t = new Told();
        int limit = t.limit(t.signal(0), t.pause(t.number(9)), t.set(0, t.second()));
        int bad = t.limit(t.over(t.number(1), t.signal(1)), t.pause(t.number(2)), t.set(1, t.second()));
        t.x.signal(0, 1);
        t.x.signal(1, 1);
        t.x.start(t.beside(limit, bad));
        t.x.tick(1);
        t.x.signal(0, 0);
        t.x.signal(1, 0);
        C.due("passed, and a fault behind it", t.x.tick(1), 2);
        C.due("the passed one", t.x.alarm(0, 1), limit);
        C.due("the fault", t.x.alarm(1, 2), 1);
        C.due("the handler was not begun", t.x.output(0), 0);
        C.due("the other stands", t.x.step(1), -1);
        t.x.signal(1, 1);
        t.x.hold(false);
        C.due("goes on", t.x.tick(1), 1);
        C.due("the handler now", t.x.output(0), 2);
        C.due("passed once", t.x.alarm(2, 2), -1);
    }

    private static void first200() {
        Told t = new Told();
        int limit = t.limit(t.signal(0), t.set(0, t.number(1)), t.let(0, t.second()));
        int closing = t.closing(limit, t.set(1, t.number(1)));
        t.x.start(t.repeat(t.number(201), t.then(closing, t.pause(t.number(1)))));
        C.due("201 rounds", t.x.tick(202), 1);
        C.due("the last alarm", t.x.alarm(199, 0), 199);
        C.due("no alarm 200", t.x.alarm(200, 0), -1);
        C.due("the last closed", t.x.closed(199), closing);
        C.due("no closed 200", t.x.closed(200), -1);
    }
}
