/** The sentences that name an edge of the faults, of the alarms and of the closing steps that are told. */
public final class FaultEdgeTest {
    private static final Checks C = new Checks("FaultEdgeTest");

    public static void main(String[] args) {
        thousandInTheFirstSecond();
        thousandInALaterSecond();
        thousandSideBySide();
        thousandOfEachKind();
        thousandAndADivision();
        thousandAnewAfterAFault();
        thousandAnewEachSecond();
        thousandBehindAWait();
        looksAreNoBegins();
        thousandthIsAPassedLimit();
        thousandInClosingSteps();
        notInWhatIsGivenUp();
        notByAStop();
        notByAStopBehindAFault();
        divisionHolds();
        divisionBegunAgain();
        divisionLookedAtAgain();
        behindAFault();
        secondOfAFaultIsOver();
        divisionInWhatIsGivenUp();
        divisionByAStop();
        limitDoesNotHold();
        first200Alarms();
        first200Closed();
        closedByAStopBeyond200();
        C.end();
    }

    /** Name 0, one more. */
    private static int more(Told t) {
        return t.let(0, t.plus(t.name(0), t.number(1)));
    }

    private static void thousandInTheFirstSecond() {
        C.says("Terms", "the 1,001st statement that is begun in a second (kind 2)");
        Told t = new Told();
        int more = more(t);
        t.x.start(t.repeat(t.number(999), more));
        C.due("1,000 statements", t.x.tick(1), 1);
        C.due("all", t.x.value(0), 999);
        C.due("no alarm", t.x.alarm(0, 2), -1);
        t.x.start(t.repeat(t.number(1000), more));
        C.due("1,001 statements", t.x.tick(1), 2);
        C.due("the 1,001st is not begun", t.x.value(0), 999);
        C.due("the alarm's second", t.x.alarm(0, 0), 0);
        C.due("the statement that was not begun", t.x.alarm(0, 1), more);
        C.due("the alarm's kind", t.x.alarm(0, 2), 2);
        C.due("one alarm", t.x.alarm(1, 2), -1);
    }

    private static void thousandInALaterSecond() {
        C.says("Terms", "the 1,001st statement that is begun in a second (kind 2)");
        for (int n : new int[] {999, 1000}) {
            Told t = new Told();
            // THEN and WAIT are begun in second 0, the others in second 1.
            t.x.start(t.then(t.pause(t.number(1)), t.repeat(t.number(n), more(t))));
            C.due("second 0", t.x.tick(1), 0);
            C.due("a repeat of " + n + " in second 1", t.x.tick(1), n == 999 ? 1 : 2);
            C.due("so many are done", t.x.value(0), 999);
            C.due("the alarm's second", t.x.alarm(0, 0), n == 999 ? -1 : 1);
        }
    }

    private static void thousandSideBySide() {
        C.says("Terms", "the 1,001st statement that is begun in a second (kind 2)");
        Told t = new Told();
        int more = more(t);
        int a = t.repeat(t.number(498), more);
        int last = t.set(5, t.number(1));
        // SIDE BY SIDE, two REPEATs, and their rounds
        t.x.start(t.beside(a, t.repeat(t.number(499), more)));
        C.due("1,000 in both", t.x.tick(1), 1);
        t.x.start(t.beside(a, t.repeat(t.number(500), last)));
        C.due("1,001 in both", t.x.tick(1), 2);
        C.due("a is done", t.x.value(0), 498);
        C.due("b's last is not begun", t.x.alarm(0, 1), last);
    }

    private static void thousandOfEachKind() {
        C.says("Terms", "the 1,001st statement that is begun in a second");
        for (int what : Roles.WHATS) {
            if (what < 10) {
                continue;
            }
            Told t = new Told();
            int e = t.number(1);
            int s = t.set(0, e);
            int[] good = Roles.good(what, e, s);
            int last = t.x.node(what, good[0], good[1], good[2]);
            // THEN, REPEAT and 998 rounds come before the last.
            t.x.start(t.then(t.repeat(t.number(998), more(t)), last));
            C.due("node " + what + " is the 1,001st", t.x.tick(1), 2);
            C.due("node " + what + " was not begun", t.x.alarm(0, 1), last);
            C.due("nothing stands", t.x.step(0), -1);
            t.x.start(t.then(t.repeat(t.number(997), more(t)), last));
            t.x.tick(1);
            C.due("node " + what + " is the 1,000th", t.x.alarm(0, 1) != last, true);
        }
    }

    private static void thousandAndADivision() {
        C.says("Terms", "with the node at which it is (the division; the statement that was not begun)");
        Told t = new Told();
        int division = t.broken();
        int bad = t.set(0, division);
        t.x.start(t.then(t.repeat(t.number(997), more(t)), bad));
        t.x.tick(1);
        C.due("the 1,000th is begun", t.x.alarm(0, 1), division);
        C.due("and faults", t.x.alarm(0, 2), 1);
        t.x.start(t.then(t.repeat(t.number(998), more(t)), bad));
        t.x.tick(1);
        C.due("the 1,001st is not begun", t.x.alarm(0, 1), bad);
        C.due("and has no division", t.x.alarm(0, 2), 2);
        C.due("one alarm", t.x.alarm(1, 2), -1);
    }

    private static void thousandAnewAfterAFault() {
        C.says("Terms", "is begun, or looked at, again when the run goes on");
        Told t = new Told();
        t.x.start(t.repeat(t.number(2999), more(t)));
        C.due("the first 1,000", t.x.tick(1), 2);
        C.due("with the repeat", t.x.value(0), 999);
        t.x.hold(false);
        C.due("the next 1,000", t.x.tick(1), 2);
        C.due("without it", t.x.value(0), 1999);
        t.x.hold(false);
        C.due("the last 1,000", t.x.tick(1), 1);
        C.due("all", t.x.value(0), 2999);
        C.due("two alarms", t.x.alarm(1, 0), 1);
        C.due("no more", t.x.alarm(2, 0), -1);
    }

    private static void thousandAnewEachSecond() {
        C.says("Terms", "begun in a second");
        Told t = new Told();
        // THEN, REPEAT, 997 rounds and WAIT: 1,000 in each second but the first, which has one more REPEAT.
        int block = t.then(t.repeat(t.minus(t.number(997), t.equal(t.second(), t.number(0))), more(t)),
                t.pause(t.number(1)));
        t.x.start(t.repeat(t.number(4), block));
        C.due("four seconds of 1,000", t.x.tick(4), 0);
        C.due("all", t.x.value(0), 4 * 997 - 1);
        C.due("ended", t.x.tick(1), 1);
        C.due("no alarm", t.x.alarm(0, 0), -1);
    }

    private static void thousandBehindAWait() {
        C.says("Terms", "the 1,001st statement that is begun in a second (kind 2)");
        for (int n : new int[] {1001, 1002}) {
            Told t = new Told();
            // One round is begun in second 0 and ends in second 1, in which the others are begun.
            int rest = t.pause(t.less(t.second(), t.number(1)));
            t.x.start(t.repeat(t.number(n), rest));
            C.due("second 0", t.x.tick(1), 0);
            C.due("a repeat of " + n, t.x.tick(1), n == 1001 ? 1 : 2);
            C.due("the wait that was not begun", t.x.alarm(0, 1), n == 1001 ? -1 : rest);
        }
    }

    private static void looksAreNoBegins() {
        C.says("Terms", "the 1,001st statement that is begun in a second");
        Told t = new Told();
        int still = t.beside(t.until(t.signal(0)), t.limit(t.number(1), t.ask(0), t.ask(0)));
        int wait = t.then(t.pause(t.number(1)), t.repeat(t.number(999), more(t)));
        t.x.start(t.beside(still, wait));
        t.x.tick(1);
        C.due("1,000 begins beside what stands", t.x.tick(1), 0);
        C.due("all", t.x.value(0), 999);
    }

    private static void thousandthIsAPassedLimit() {
        C.says("Terms", "A limit that is passed is an alarm (kind 3, its node), but does not hold");
        Told t = new Told();
        int handler = t.set(0, t.second());
        int limit = t.limit(t.signal(0), t.set(1, t.number(1)), handler);
        t.x.start(t.then(t.repeat(t.number(997), more(t)), limit));
        C.due("its handler is the 1,001st", t.x.tick(1), 2);
        C.due("the limit is passed", t.x.alarm(0, 1), limit);
        C.due("the handler was not begun", t.x.alarm(1, 1), handler);
        C.due("by kind 2", t.x.alarm(1, 2), 2);
        t.x.signal(0, 1);
        t.x.hold(false);
        C.due("it is begun again", t.x.tick(1), 1);
        C.due("the handler", t.x.output(0), 1);
        C.due("the limit stays passed", t.x.output(1), 0);
        C.due("no more alarms", t.x.alarm(2, 2), -1);
    }

    private static void thousandInClosingSteps() {
        C.says("Terms", "In closing steps that are done for something given up, or by a stop");
        Told t = new Told();
        int last = t.set(0, t.number(1));
        // 21, REPEAT, its rounds and the one closing step, which is done behind an end.
        int good = t.closing(t.repeat(t.number(997), more(t)), last);
        t.x.start(good);
        C.due("the 1,000th in closing steps", t.x.tick(1), 1);
        int bad = t.closing(t.repeat(t.number(998), more(t)), last);
        t.x.start(bad);
        C.due("the 1,001st in closing steps", t.x.tick(1), 2);
        C.due("is not begun", t.x.alarm(0, 1), last);
        C.due("they are not done", t.x.closed(0), -1);
        t.x.hold(false);
        C.due("they go on", t.x.tick(1), 1);
        C.due("and are done", t.x.closed(0), bad);
    }

    private static void notInWhatIsGivenUp() {
        C.says("Terms", "kind 2 does not count there");
        for (int n : new int[] {999, 1000}) {
            Told t = new Told();
            int many = t.set(1, t.number(1));
            for (int i = 0; i < 7; i++) {
                many = t.then(many, many);
            }
            int body = t.closing(t.pause(t.number(9)), many);
            t.x.signal(0, 1);
            t.x.start(t.limit(t.signal(0), body, t.repeat(t.number(n), more(t))));
            t.x.tick(1);
            t.x.signal(0, 0);
            C.due("255 closing steps and a repeat of " + n, t.x.tick(1), n == 999 ? 1 : 2);
            C.due("so many rounds", t.x.value(0), 999);
            C.due("the closing steps", t.x.closed(0), body);
        }
    }

    /** A run whose first second has begun exactly 1,000 statements, or wants one more. */
    private static int fullSecond(Told t, int rounds) {
        int body = t.then(t.repeat(t.number(rounds), more(t)), t.pause(t.number(9)));
        return t.closing(body, t.then(t.set(1, t.number(1)), t.set(2, t.number(2))));
    }

    private static void notByAStop() {
        C.says("Terms", "or by a stop, .. kind 2 does not count there");
        Told t = new Told();
        int node = fullSecond(t, 996);
        t.x.start(node);
        C.due("1,000 statements", t.x.tick(1), 0);
        C.due("stop", t.x.stop(), 1);
        C.due("its closing steps", t.x.output(1), 1);
        C.due("all of them", t.x.output(2), 2);
        C.due("no alarm", t.x.alarm(0, 2), -1);
    }

    private static void notByAStopBehindAFault() {
        C.says("Terms", "or by a stop, .. kind 2 does not count there");
        Told t = new Told();
        int node = fullSecond(t, 997);
        t.x.start(node);
        C.due("1,001 statements", t.x.tick(1), 2);
        C.due("stop", t.x.stop(), 1);
        C.due("its closing steps", t.x.output(1), 1);
        C.due("all of them", t.x.output(2), 2);
        C.due("one alarm", t.x.alarm(0, 2), 2);
        C.due("no more", t.x.alarm(1, 2), -1);
    }

    private static void divisionHolds() {
        C.says("Terms", "A fault is an ALARM .. and the run is HELD");
        // Each kind of statement that reckons something, with the division at each place of it.
        for (int what : Roles.WHATS) {
            for (int k = 0; k < 3 && what >= 10; k++) {
                if (!Roles.isExpression(Roles.of(what).charAt(k))) {
                    continue;
                }
                Told t = new Told();
                int division = t.over(t.number(8), t.signal(3));
                int e = t.number(1);
                int bad = Roles.tell(t, what, Roles.good(what, e, t.set(0, e)), k, division);
                t.x.start(bad);
                C.due("node " + what + " with a division as part " + k, t.x.tick(5), 2);
                C.due("its second", t.x.alarm(0, 0), 0);
                C.due("the division", t.x.alarm(0, 1), division);
                C.due("its kind", t.x.alarm(0, 2), 1);
                C.due("once", t.x.alarm(1, 2), -1);
                C.due("it was not begun", t.x.step(0), -1);
                C.due("hold(true) is not new", t.x.hold(true), false);
                C.due("hold(false) is", t.x.hold(false), true);
            }
        }
    }

    private static void divisionBegunAgain() {
        C.says("Terms", "the statement whose begin .. it was, is begun .. again when the run goes on");
        Told t = new Told();
        int rest = t.pause(t.over(t.number(6), t.signal(0)));
        t.x.start(t.then(more(t), rest));
        for (int i = 0; i < 3; i++) {
            C.due("held", t.x.tick(1), 2);
            C.due("the alarm's second", t.x.alarm(i, 0), i);
            C.due("not begun", t.x.step(0), -1);
            t.x.hold(false);
        }
        t.x.signal(0, 6);
        C.due("begun in second 3", t.x.tick(1), 0);
        C.due("it stands", t.x.step(0), rest);
        C.due("1 second later", t.x.tick(1), 1);
        C.due("what was before it is done once", t.x.value(0), 1);
    }

    private static void divisionLookedAtAgain() {
        C.says("Terms", "whose .. look, it was, is .. looked at, again when the run goes on");
        Told t = new Told();
        int until = t.until(t.over(t.signal(1), t.signal(0)));
        t.x.signal(0, 1);
        t.x.start(until);
        t.x.tick(1);
        t.x.signal(0, 0);
        C.due("held", t.x.tick(1), 2);
        C.due("it was begun and has not ended", t.x.step(0), until);
        t.x.signal(0, 1);
        t.x.hold(false);
        C.due("looked at again", t.x.tick(1), 0);
        t.x.signal(1, 1);
        C.due("and again", t.x.tick(1), 1);
    }

    private static void behindAFault() {
        C.says("Terms", "what is behind it in this second is not done");
        Told t = new Told();
        int count = t.let(0, t.plus(t.name(0), t.number(1)));
        int countB = t.let(1, t.plus(t.name(1), t.number(1)));
        int one = t.number(1);
        int early = t.repeat(t.number(9), t.then(count, t.pause(one)));
        int late = t.repeat(t.number(9), t.then(countB, t.pause(one)));
        int bad = t.then(t.pause(t.number(2)), t.set(0, t.over(one, t.signal(0))), t.ask(7));
        t.x.start(t.beside(early, t.beside(bad, late)));
        C.due("held in second 2", t.x.tick(9), 2);
        C.due("what is before it", t.x.value(0), 3);
        C.due("what is behind it", t.x.value(1), 2);
        t.x.signal(0, 1);
        t.x.hold(false);
        C.due("goes on", t.x.tick(1), 0);
        C.due("what is before it", t.x.value(0), 4);
        C.due("what is behind it, once", t.x.value(1), 3);
    }

    private static void secondOfAFaultIsOver() {
        C.says("Terms", "the second is over");
        Told t = new Told();
        int bad = t.then(t.set(0, t.over(t.number(1), t.signal(0))), t.set(1, t.second()));
        t.x.start(bad);
        C.due("second 0", t.x.tick(10), 2);
        C.due("no second goes by", t.x.tick(10), 2);
        t.x.signal(0, 1);
        t.x.hold(false);
        C.due("second 1", t.x.tick(10), 1);
        C.due("it is", t.x.output(1), 1);
    }

    /** A closing node whose second closing step of three divides by 0. */
    private static int badClosing(Told t, int division) {
        int steps = t.then(t.set(1, t.number(1)), t.set(2, division), t.set(3, t.number(3)));
        return t.closing(t.pause(t.number(9)), steps);
    }

    private static void divisionInWhatIsGivenUp() {
        C.says("Terms", "a fault of kind 1 ends those closing steps alone, and does not hold");
        Told t = new Told();
        int division = t.broken();
        int bad = badClosing(t, division);
        int around = t.closing(t.beside(bad, t.closing(t.ask(0), t.set(4, t.number(4)))), t.set(5, t.number(5)));
        int limit = t.limit(t.signal(0), around, t.then(t.set(6, t.number(6)), t.pause(t.number(1))));
        t.x.signal(0, 1);
        t.x.start(limit);
        t.x.tick(1);
        t.x.signal(0, 0);
        C.due("does not hold", t.x.tick(1), 0);
        C.due("the limit", t.x.alarm(0, 2), 3);
        C.due("the division", t.x.alarm(1, 1), division);
        C.due("its second", t.x.alarm(1, 0), 1);
        C.due("no more", t.x.alarm(2, 1), -1);
        for (int k = 1; k <= 6; k++) {
            C.due("output " + k, t.x.output(k), k == 2 || k == 3 ? 0 : k);
        }
        C.due("they are done, as far as they go", t.x.closed(0), bad);
        C.due("and those around", t.x.closed(2), around);
    }

    private static void divisionByAStop() {
        C.says("Terms", "a fault of kind 1 ends those closing steps alone");
        Told t = new Told();
        int division = t.broken();
        int bad = badClosing(t, division);
        t.x.start(t.closing(t.beside(bad, bad), t.set(4, t.number(4))));
        t.x.tick(1);
        C.due("all three are done", t.x.stop(), 3);
        C.due("stopped, not held", t.x.tick(1), 3);
        C.due("the first division", t.x.alarm(0, 1), division);
        C.due("the other", t.x.alarm(1, 1), division);
        C.due("no more", t.x.alarm(2, 1), -1);
        C.due("before it", t.x.output(1), 1);
        C.due("behind it", t.x.output(3), 0);
        C.due("around it", t.x.output(4), 4);
    }

    private static void limitDoesNotHold() {
        C.says("Terms", "A limit that is passed is an alarm (kind 3, its node), but does not hold");
        Told t = new Told();
        int limit = t.limit(t.signal(0), t.ask(0), t.pause(t.number(5)));
        t.x.signal(0, 1);
        t.x.start(limit);
        t.x.tick(1);
        t.x.signal(0, 0);
        C.due("goes on", t.x.tick(1), 0);
        C.due("its alarm", t.x.alarm(0, 1), limit);
        C.due("its second", t.x.alarm(0, 0), 1);
        C.due("its kind", t.x.alarm(0, 2), 3);
        C.due("hold(false) is not new", t.x.hold(false), false);
    }

    /** A run of so many rounds, one in each second, each with one alarm and one closing. */
    private static int rounds(Told t, int n) {
        int closing = t.closing(t.limit(t.signal(0), t.ask(0), t.set(0, t.number(1))), t.set(1, t.number(1)));
        t.x.start(t.repeat(t.number(n), t.then(closing, t.pause(t.number(1)))));
        C.due(n + " rounds", t.x.tick(n + 1), 1);
        return closing;
    }

    private static void first200Alarms() {
        C.says("Promise 9", "Alarm k of the run, from 0, of its first 200");
        for (int n : new int[] {199, 200, 201, 1000}) {
            Told t = new Told();
            rounds(t, n);
            C.due("alarm(198) of " + n, t.x.alarm(198, 0), 198);
            C.due("alarm(199) of " + n, t.x.alarm(199, 0), n < 200 ? -1 : 199);
            C.due("alarm(200) of " + n, t.x.alarm(200, 0), -1);
            C.due("the kind of alarm(199) of " + n, t.x.alarm(199, 2), n < 200 ? -1 : 3);
            C.due("the kind of alarm(200) of " + n, t.x.alarm(200, 2), -1);
            C.due("alarm(0) of " + n, t.x.alarm(0, 0), 0);
        }
    }

    private static void first200Closed() {
        C.says("Promise 13", "The node (21) of number k, from 0, of the first 200");
        for (int n : new int[] {199, 200, 201, 1000}) {
            Told t = new Told();
            int closing = rounds(t, n);
            C.due("closed(0) of " + n, t.x.closed(0), closing);
            C.due("closed(198) of " + n, t.x.closed(198), closing);
            C.due("closed(199) of " + n, t.x.closed(199), n < 200 ? -1 : closing);
            C.due("closed(200) of " + n, t.x.closed(200), -1);
        }
    }

    private static void closedByAStopBeyond200() {
        C.says("Promise 12", "How many closing steps (21) were done by that");
        for (int n : new int[] {199, 200, 201}) {
            Told t = new Told();
            int set = t.set(1, t.number(1));
            int round = t.closing(set, set);
            int last = t.closing(t.ask(0), set);
            t.x.start(t.then(t.repeat(t.number(n), round), t.beside(last, last)));
            t.x.tick(1);
            C.due("stop counts its two behind " + n, t.x.stop(), 2);
            C.due("closed(199) behind " + n, t.x.closed(199), n < 200 ? last : round);
            C.due("closed(200) behind " + n, t.x.closed(200), -1);
        }
    }
}
