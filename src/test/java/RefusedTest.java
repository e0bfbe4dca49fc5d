import java.util.ArrayList;
import java.util.List;

/**
 * A call that is refused changes nothing that a later call shows: of two objects with the same calls one is told a
 * refused call too, and all that they answer behind it is the same.
 */
public final class RefusedTest {
    private static final Checks C = new Checks("RefusedTest");

    private interface Call {
        long on(Scene s);
    }

    private record Refused(String text, long due, Call call) {
    }

    /** A program of all kinds of statements, and what is needed to be refused. */
    private static final class Scene {
        final Told t = new Told();
        final StepWalk x = t.x;
        int leaf;
        int root;
        int small;
        int bad;
        int large;
        int deep;
        int tooMany;

        void tell() {
            leaf = t.number(1);
            int two = t.number(2);
            int count = t.let(0, t.plus(t.name(0), leaf));
            int body = t.beside(t.then(t.ask(1), t.set(2, t.name(1))), t.ramp(3, t.number(50), t.number(20)));
            int limit = t.limit(t.signal(0), body, t.then(t.set(4, t.second()), t.pause(two)));
            int rounds = t.repeat(t.number(30), t.then(count, t.pause(leaf)));
            int until = t.closing(t.until(t.signal(1)), t.set(15, t.number(15)));
            root = t.beside(t.closing(limit, t.let(5, t.second())), t.beside(rounds, until));
            small = t.then(t.set(6, leaf), t.let(7, two));
            bad = t.beside(root, t.then(t.pause(two), t.set(8, t.over(leaf, t.signal(2)))));
            large = t.ones(100);
            deep = t.deepExpression(30);
            tooMany = small;
            for (int i = 0; i < 8; i++) {
                tooMany = t.then(tooMany, tooMany);
            }
            x.safe(0, -7);
            x.safe(3, -8);
        }

        void begin() {
            tell();
            x.signal(0, 1);
            x.start(root);
        }
    }

    private enum State {
        NEW(-1), TOLD(-1), FULL(0), NOT_TICKED(0), GOES_ON(0), ANSWERED(0), HELD(2), HELD_BY_FAULT(2), ENDED(1),
        STOPPED(3);

        final int answer;

        State(int answer) {
            this.answer = answer;
        }

        void bring(Scene s) {
            switch (this) {
                case NEW:
                    break;
                case TOLD:
                    s.tell();
                    break;
                case FULL:
                    s.begin();
                    s.x.tick(3);
                    s.t.fill(200);
                    break;
                case NOT_TICKED:
                    s.begin();
                    break;
                case GOES_ON:
                    s.begin();
                    s.x.tick(3);
                    break;
                case ANSWERED:
                    s.begin();
                    s.x.tick(3);
                    s.x.answer(44);
                    break;
                case HELD:
                    s.begin();
                    s.x.tick(3);
                    s.x.hold(true);
                    break;
                case HELD_BY_FAULT:
                    s.begin();
                    s.x.start(s.bad);
                    s.x.tick(3);
                    break;
                case ENDED:
                    s.tell();
                    s.x.start(s.small);
                    s.x.tick(1);
                    break;
                default:
                    s.begin();
                    s.x.tick(3);
                    s.x.stop();
                    break;
            }
        }
    }

    /** What an object answers behind the refused call. */
    private static final class Later {
        final List<String> calls = new ArrayList<>();
        final List<Long> answers = new ArrayList<>();
        private final StepWalk x;

        Later(Scene s) {
            x = s.x;
            read();
            note("hold(false)", x.hold(false));
            note("tick(1)", x.tick(1));
            note("answer(9)", x.answer(9));
            read();
            note("hold(true)", x.hold(true));
            read();
            note("hold(false)", x.hold(false));
            note("signal(0, 0)", x.signal(0, 0));
            note("tick(2)", x.tick(2));
            read();
            note("stop()", x.stop());
            read();
            tellMore(s);
            read();
        }

        private void tellMore(Scene s) {
            int leaf = x.leaf(0, 3);
            note("leaf(0, 3)", leaf);
            note("node(13, that leaf, 0, 0)", x.node(13, leaf, 0, 0));
            note("start(small)", x.start(s.small));
            note("tick(1)", x.tick(1));
        }

        private void note(String call, long answer) {
            calls.add(call);
            answers.add(answer);
        }

        private void note(String call, boolean answer) {
            note(call, answer ? 1 : 0);
        }

        private void read() {
            note("tick(0)", x.tick(0));
            for (int k = 0; k < 16; k++) {
                note("output(" + k + ")", x.output(k));
            }
            for (int k : new int[] {0, 1, 5, 7, 15}) {
                note("value(" + k + ")", x.value(k));
            }
            for (int k = 0; k < 4; k++) {
                note("step(" + k + ")", x.step(k));
                note("alarm(" + k + ", 0)", x.alarm(k, 0));
                note("alarm(" + k + ", 1)", x.alarm(k, 1));
                note("closed(" + k + ")", x.closed(k));
            }
        }
    }

    public static void main(String[] args) {
        C.says("Promises 2 to 15", "refused");
        for (State state : State.values()) {
            for (Refused refused : refusedIn(state)) {
                check(state, refused);
            }
        }
        C.end();
    }

    private static void check(State state, Refused refused) {
        Scene with = new Scene();
        Scene without = new Scene();
        state.bring(with);
        state.bring(without);
        C.due("tick(0) in state " + state, with.x.tick(0), state.answer);
        C.due("tick(0) in state " + state, without.x.tick(0), state.answer);
        C.due(refused.text + " in state " + state, refused.call.on(with), refused.due);
        Later a = new Later(with);
        Later b = new Later(without);
        int same = 0;
        while (same < a.answers.size() && a.answers.get(same).equals(b.answers.get(same))) {
            same++;
        }
        C.due("later calls as without it, behind " + refused.text + " in state " + state, same, b.answers.size());
        if (same < a.answers.size()) {
            C.due(a.calls.get(same) + " behind that", a.answers.get(same), b.answers.get(same));
        }
    }

    private static List<Refused> refusedIn(State state) {
        List<Refused> all = new ArrayList<>();
        addWrongLeaves(all);
        addWrongNodes(all);
        addWrongNumbers(all);
        switch (state) {
            case NEW:
                addWithoutRun(all);
                add(all, "tick(1)", -1, s -> s.x.tick(1));
                break;
            case TOLD:
                addWithoutRun(all);
                addTold(all);
                add(all, "tick(1)", -1, s -> s.x.tick(1));
                break;
            case FULL:
                addFull(all);
                addTold(all);
                break;
            case ENDED:
            case STOPPED:
                addWithoutRun(all);
                addTold(all);
                break;
            case HELD:
            case HELD_BY_FAULT:
                addTold(all);
                add(all, "answer(5)", 0, s -> bit(s.x.answer(5)));
                add(all, "hold(true)", 0, s -> bit(s.x.hold(true)));
                add(all, "tick(5)", 2, s -> s.x.tick(5));
                break;
            case GOES_ON:
                addTold(all);
                add(all, "hold(false)", 0, s -> bit(s.x.hold(false)));
                break;
            default:
                addTold(all);
                add(all, "answer(5)", 0, s -> bit(s.x.answer(5)));
                add(all, "hold(false)", 0, s -> bit(s.x.hold(false)));
                break;
        }
        return all;
    }

    private static void add(List<Refused> all, String text, long due, Call call) {
        all.add(new Refused(text, due, call));
    }

    private static long bit(boolean b) {
        return b ? 1 : 0;
    }

    private static void addWrongLeaves(List<Refused> all) {
        add(all, "leaf(-1, 0)", -1, s -> s.x.leaf(-1, 0));
        add(all, "leaf(4, 0)", -1, s -> s.x.leaf(4, 0));
        for (int kind = 1; kind <= 2; kind++) {
            int k = kind;
            add(all, "leaf(" + k + ", -1)", -1, s -> s.x.leaf(k, -1));
            add(all, "leaf(" + k + ", 16)", -1, s -> s.x.leaf(k, 16));
        }
    }

    private static void addWrongNodes(List<Refused> all) {
        for (int what : new int[] {-1, 6, 9, 22, 30}) {
            add(all, "node(" + what + ", ..)", -1, s -> s.x.node(what, 0, 0, 0));
        }
        for (int what : Roles.WHATS) {
            if (what != 20) {
                add(all, "node(" + what + ") of parts 200", -1, s -> s.x.node(what, 200, 200, 200));
            }
            if (what == 11 || what == 12 || what == 19 || what == 20) {
                add(all, "node(" + what + ", 16, ..)", -1, s -> s.x.node(what, 16, 0, 0));
                add(all, "node(" + what + ", -1, ..)", -1, s -> s.x.node(what, -1, 0, 0));
            }
        }
    }

    private static void addWrongNumbers(List<Refused> all) {
        for (int k : new int[] {-1, 16}) {
            add(all, "signal(" + k + ", 5)", 0, s -> bit(s.x.signal(k, 5)));
            add(all, "safe(" + k + ", 5)", 0, s -> bit(s.x.safe(k, 5)));
            add(all, "output(" + k + ")", 0, s -> s.x.output(k));
            add(all, "value(" + k + ")", 0, s -> s.x.value(k));
        }
        add(all, "start(-1)", -1, s -> s.x.start(-1));
        add(all, "start(200)", -1, s -> s.x.start(200));
        add(all, "tick(-1)", -1, s -> s.x.tick(-1));
        add(all, "tick(10001)", -1, s -> s.x.tick(10001));
        add(all, "step(-1)", -1, s -> s.x.step(-1));
        add(all, "step(500)", -1, s -> s.x.step(500));
        add(all, "alarm(-1, 0)", -1, s -> s.x.alarm(-1, 0));
        add(all, "alarm(200, 0)", -1, s -> s.x.alarm(200, 0));
        add(all, "alarm(0, 3)", -1, s -> s.x.alarm(0, 3));
        add(all, "closed(-1)", -1, s -> s.x.closed(-1));
        add(all, "closed(200)", -1, s -> s.x.closed(200));
    }

    private static void addTold(List<Refused> all) {
        add(all, "start(an expression)", -1, s -> s.x.start(s.leaf));
        add(all, "start(too many)", -2, s -> s.x.start(s.tooMany));
        add(all, "a node too deep", -1, s -> s.x.node(0, s.leaf, s.deep, 0));
        add(all, "an expression of too many", -1, s -> s.x.node(0, s.leaf, s.large, 0));
        add(all, "a statement too deep", -1, s -> s.x.node(11, 0, s.deep, 0));
        add(all, "a part that is no expression", -1, s -> s.x.node(0, s.leaf, s.small, 0));
        add(all, "a part that is no statement", -1, s -> s.x.node(10, s.small, s.leaf, 0));
        add(all, "closing steps that may not be", -1, s -> s.x.node(21, s.small, s.root, 0));
        add(all, "a limit without a handler", -1, s -> s.x.node(18, s.leaf, s.small, -1));
    }

    private static void addWithoutRun(List<Refused> all) {
        add(all, "answer(5)", 0, s -> bit(s.x.answer(5)));
        add(all, "hold(true)", 0, s -> bit(s.x.hold(true)));
        add(all, "hold(false)", 0, s -> bit(s.x.hold(false)));
        add(all, "stop()", -1, s -> s.x.stop());
    }

    private static void addFull(List<Refused> all) {
        for (int kind = 0; kind <= 3; kind++) {
            int k = kind;
            add(all, "leaf(" + k + ", 5)", -2, s -> s.x.leaf(k, 5));
        }
        for (int what : Roles.WHATS) {
            add(all, "a good node of " + what, -2, s -> {
                int[] good = Roles.good(what, s.leaf, s.small);
                return s.x.node(what, good[0], good[1], good[2]);
            });
        }
    }
}
