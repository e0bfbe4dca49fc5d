/** The sentences that name an edge of a program: its numbers, its depth, its expressions, leaf and node. */
public final class ProgramEdgeTest {
    private static final Checks C = new Checks("ProgramEdgeTest");
    private static final int LEAST = Integer.MIN_VALUE;
    private static final int MOST = Integer.MAX_VALUE;

    public static void main(String[] args) {
        numbersTogetherFromZero();
        atMost200WithALeaf();
        atMost200WithANode();
        wrongWhenFull();
        partsToldBefore();
        partsInSeveralNodes();
        depthOfExpressions();
        depthOfStatements();
        depthOfEachPart();
        depthIsOfPartsAlone();
        expressionsOf200();
        expressionsOf200InStatements();
        leafKinds();
        signalsAndNames();
        anyNumberInOtherLeaves();
        whats();
        outputsAndNames();
        kindsOfParts();
        elseOrNothing();
        handlerOrNothing();
        notLookedAt();
        closingSteps();
        C.end();
    }

    private static void numbersTogetherFromZero() {
        C.says("Terms", "LEAVES and NODES have numbers together from 0 on");
        Told t = new Told();
        C.due("the first leaf", t.number(7), 0);
        C.due("the first node", t.pause(0), 1);
        C.due("the second leaf", t.second(), 2);
        C.due("the second node", t.plus(0, 2), 3);
        C.due("the first leaf of another object", new Told().number(7), 0);
        C.due("the first node, of no part, of another object", new Told().ask(0), 0);
    }

    private static void atMost200WithALeaf() {
        C.says("Terms", "numbers together from 0 on, at most 200");
        Told t = new Told();
        t.fill(198);
        C.due("number 198", t.set(0, 0), 198);
        C.due("number 199, a leaf", t.number(3), 199);
        C.due("a 201st leaf", t.number(3), -2);
        C.due("a 201st node", t.set(1, 199), -2);
        C.due("a 201st leaf of a signal", t.signal(15), -2);
        C.due("a 201st leaf again", t.number(3), -2);
        C.due("number 200 is not there", t.x.start(200), -1);
        C.due("number 199 is a leaf", t.x.start(199), -1);
        C.due("number 198 is there", t.x.start(198), 1);
    }

    private static void atMost200WithANode() {
        C.says("Terms", "numbers together from 0 on, at most 200");
        Told t = new Told();
        t.fill(198);
        C.due("number 198", t.number(4), 198);
        C.due("number 199, a node", t.set(5, 198), 199);
        for (int what : Roles.WHATS) {
            int[] good = Roles.good(what, 198, 199);
            C.due("a 201st node of " + what, t.x.node(what, good[0], good[1], good[2]), -2);
        }
        C.due("a 201st leaf", t.number(1), -2);
        C.due("number 199 is there", t.x.start(199), 1);
        t.x.tick(1);
        C.due("and is what it was", t.x.output(5), 4);
    }

    private static void wrongWhenFull() {
        C.says("Promises 2 and 3", "NONE, refused, when ..; FULL");
        Told t = new Told();
        t.fill(200);
        C.due("a leaf of kind 4", t.x.leaf(4, 0), -1);
        C.due("a leaf of signal 16", t.signal(16), -1);
        C.due("a node of what 22", t.x.node(22, 0, 0, 0), -1);
        C.due("a node of a part that is not there", t.plus(0, 200), -1);
    }

    private static void partsToldBefore() {
        C.says("Terms", "a node's parts were told before");
        for (int what : Roles.WHATS) {
            for (int k = 0; k < 3; k++) {
                char role = Roles.of(what).charAt(k);
                if (!Roles.isExpression(role) && !Roles.isStatement(role)) {
                    continue;
                }
                Told t = new Told();
                int e = t.number(1);
                int s = t.set(0, e);
                int last = Roles.isExpression(role) ? t.number(1) : t.set(0, e);
                int[] good = Roles.good(what, e, s);
                String part = "node " + what + " with part " + k;
                C.due(part + " itself", Roles.tell(t, what, good, k, last + 1), -1);
                C.due(part + " behind itself", Roles.tell(t, what, good, k, last + 2), -1);
                C.due(part + " 199", Roles.tell(t, what, good, k, 199), -1);
                C.due(part + " 200", Roles.tell(t, what, good, k, 200), -1);
                C.due(part + " most", Roles.tell(t, what, good, k, MOST), -1);
                C.due(part + " -2", Roles.tell(t, what, good, k, -2), -1);
                C.due(part + " least", Roles.tell(t, what, good, k, LEAST), -1);
                if (role != 'n') {
                    C.due(part + " -1", Roles.tell(t, what, good, k, -1), -1);
                }
                C.due(part + " the last told", Roles.tell(t, what, good, k, last), last + 1);
                C.due(part + " the first of them", Roles.tell(t, what, good, k, Roles.isExpression(role) ? e : s),
                        last + 2);
            }
        }
    }

    private static void partsInSeveralNodes() {
        C.says("Terms", "and may stand in several nodes");
        Told t = new Told();
        int one = t.number(1);
        int two = t.plus(one, one);
        int four = t.plus(two, two);
        int more = t.let(0, t.plus(t.name(0), four));
        int twice = t.then(more, more);
        t.x.start(t.then(twice, more, twice, t.set(0, t.times(four, two))));
        C.due("all are done", t.x.tick(1), 1);
        C.due("5 times 4", t.x.value(0), 20);
        C.due("4 times 2", t.x.output(0), 8);
    }

    private static void depthOfExpressions() {
        C.says("Terms", "it is one deeper than its deepest part (a leaf is 1), at most 30");
        for (int what = 0; what <= 5; what++) {
            Told t = new Told();
            int leaf = t.number(1);
            int fifteen = t.deepExpression(15);
            int deep = t.deepExpression(29);
            C.due("a node " + what + " of 29 and 29", t.x.node(what, deep, deep, 0) >= 0, true);
            int thirty = t.x.node(what, leaf, deep, 0);
            C.due("a node " + what + " of 1 and 29", thirty >= 0, true);
            C.due("a node " + what + " of 29 and 15", t.x.node(what, deep, fifteen, 0) >= 0, true);
            C.due("a node " + what + " of 1 and 30", t.x.node(what, leaf, thirty, 0), -1);
            C.due("a node " + what + " of 30 and 1", t.x.node(what, thirty, leaf, 0), -1);
            C.due("a node " + what + " of 30 and 30", t.x.node(what, thirty, thirty, 0), -1);
        }
    }

    private static void depthOfStatements() {
        C.says("Terms", "it is one deeper than its deepest part (a leaf is 1), at most 30");
        Told t = new Told();
        int ask = t.ask(0);
        int all = ask;
        for (int depth = 2; depth <= 30; depth++) {
            all = t.then(all, ask);
            C.due("a statement of depth " + depth, all >= 0, true);
        }
        C.due("one of depth 31", t.then(all, ask), -1);
        C.due("that of depth 30 is walked", t.x.start(all), 59);
        Told u = new Told();
        int rest = u.pause(u.number(0));
        all = rest;
        for (int depth = 3; depth <= 30; depth++) {
            all = u.then(all, rest);
            C.due("a statement with a leaf, of depth " + depth, all >= 0, true);
        }
        C.due("one with a leaf, of depth 31", u.then(all, rest), -1);
    }

    private static void depthOfEachPart() {
        C.says("Terms", "it is one deeper than its deepest part (a leaf is 1), at most 30");
        for (int what : Roles.WHATS) {
            for (int k = 0; k < 3; k++) {
                char role = Roles.of(what).charAt(k);
                if (!Roles.isExpression(role) && !Roles.isStatement(role)) {
                    continue;
                }
                Told t = new Told();
                int e = t.number(1);
                int s = t.set(0, e);
                int good = Roles.isExpression(role) ? t.deepExpression(29) : t.deepStatement(29);
                int deep = Roles.isExpression(role) ? t.deepExpression(30) : t.deepStatement(30);
                int[] parts = Roles.good(what, e, s);
                C.due("both are there", good >= 0 && deep >= 0, true);
                C.due("node " + what + " with part " + k + " of depth 29",
                        Roles.tell(t, what, parts, k, good) >= 0, true);
                C.due("node " + what + " with part " + k + " of depth 30", Roles.tell(t, what, parts, k, deep), -1);
            }
        }
    }

    private static void depthIsOfPartsAlone() {
        C.says("Terms", "it is one deeper than its deepest part");
        Told t = new Told();
        // Number 14 has a depth of 15, but as an output's or a name's number it is no part.
        int deep = t.deepExpression(15);
        C.due("the depth of 15 has number 14", deep, 14);
        int leaf = t.number(0);
        for (int what : new int[] {11, 12, 19, 20}) {
            int all = t.x.node(what, 14, leaf, leaf);
            int depth = what == 20 ? 1 : 2;
            for (; depth < 30 && all >= 0; depth++) {
                all = t.repeat(leaf, all);
            }
            C.due("28 or 29 repeats around a node of " + what, all >= 0, true);
            C.due("one more", t.repeat(leaf, all), -1);
        }
    }

    private static void expressionsOf200() {
        C.says("Terms", "they are of at most 200 leaves and nodes, each as often as it stands in them");
        // a + b + 1 is odd where a and b are, so no expression has 200: 199 is the last that is good.
        for (int what = 0; what <= 5; what++) {
            Told t = new Told();
            int one = t.ones(1);
            C.due("99 and 99 in " + what, t.x.node(what, t.ones(50), t.ones(50), 0) >= 0, true);
            C.due("99 and 101 in " + what, t.x.node(what, t.ones(50), t.ones(51), 0), -1);
            C.due("101 and 99 in " + what, t.x.node(what, t.ones(51), t.ones(50), 0), -1);
            C.due("1 and 197 in " + what, t.x.node(what, one, t.ones(99), 0) >= 0, true);
            C.due("197 and 1 in " + what, t.x.node(what, t.ones(99), one, 0) >= 0, true);
            C.due("1 and 199 in " + what, t.x.node(what, one, t.ones(100), 0), -1);
            C.due("199 and 1 in " + what, t.x.node(what, t.ones(100), one, 0), -1);
            C.due("199 and 199 in " + what, t.x.node(what, t.ones(100), t.ones(100), 0), -1);
        }
    }

    private static void expressionsOf200InStatements() {
        C.says("Terms", "EXPRESSIONS .. are of at most 200 leaves and nodes");
        Told t = new Told();
        int full = t.ones(100);
        int s = t.set(0, full);
        C.due("a set of 199", s, full + 1);
        C.due("a let of 199", t.let(0, full), full + 2);
        C.due("a ramp of 199 and 199", t.ramp(1, full, full), full + 3);
        C.due("a wait of 199", t.pause(full), full + 4);
        C.due("a limit of 199 around a set of 199", t.limit(full, s, s), full + 5);
        t.x.start(s);
        C.due("it is reckoned", t.x.tick(1), 1);
        C.due("100 ones", t.x.output(0), 100);
    }

    private static void leafKinds() {
        C.says("Promise 2", "NONE, refused, when kind is not 0 .. 3");
        StepWalk x = new StepWalk();
        for (int kind : new int[] {-1, 4, 5, -4, LEAST, LEAST + 1, MOST, MOST - 1, MOST - 30, MOST - 32}) {
            C.due("leaf(" + kind + ", 0)", x.leaf(kind, 0), -1);
        }
        for (int kind = 0; kind <= 3; kind++) {
            C.due("leaf(" + kind + ", 0)", x.leaf(kind, 0), kind);
        }
    }

    private static void signalsAndNames() {
        C.says("Promise 2", "or v of a signal or name not 0 .. 15");
        long turn = 1L << 32;
        for (int kind = 1; kind <= 2; kind++) {
            StepWalk x = new StepWalk();
            for (long v : new long[] {-1, 16, -16, turn, turn + 15, -turn, Long.MIN_VALUE, Long.MAX_VALUE}) {
                C.due("leaf(" + kind + ", " + v + ")", x.leaf(kind, v), -1);
            }
            for (int v = 0; v <= 15; v++) {
                C.due("leaf(" + kind + ", " + v + ")", x.leaf(kind, v), v);
            }
        }
    }

    private static void anyNumberInOtherLeaves() {
        C.says("Terms", "kind 0 the number v; .. 3 the second");
        StepWalk x = new StepWalk();
        int next = 0;
        for (long v : new long[] {-1, 0, 15, 16, 1L << 32, Long.MIN_VALUE, Long.MAX_VALUE}) {
            C.due("leaf(0, " + v + ")", x.leaf(0, v), next);
            C.due("leaf(3, " + v + ")", x.leaf(3, v), next + 1);
            next += 2;
        }
    }

    private static void whats() {
        C.says("Promise 3", "NONE, refused, when what is none of these");
        Told t = new Told();
        int e = t.number(1);
        int s = t.set(0, e);
        int[] none = {-1, 6, 7, 8, 9, 22, 23, 29, 30, 31, 32, 33, 34, LEAST, LEAST + 10, MOST};
        for (int what : none) {
            C.due("node(" + what + ") of expressions", t.x.node(what, e, e, e), -1);
            C.due("node(" + what + ") of statements", t.x.node(what, s, s, s), -1);
            C.due("node(" + what + ") of a place and an expression", t.x.node(what, 15, e, e), -1);
            C.due("node(" + what + ") of an expression and a statement", t.x.node(what, e, s, s), -1);
        }
        int next = s + 1;
        for (int what : Roles.WHATS) {
            int[] good = Roles.good(what, e, s);
            C.due("node(" + what + ")", t.x.node(what, good[0], good[1], good[2]), next);
            next++;
        }
    }

    private static void outputsAndNames() {
        C.says("Terms", "Outputs and names are told by their numbers, 0 .. 15");
        for (int what : new int[] {11, 12, 19, 20}) {
            Told t = new Told();
            t.fill(20);
            for (int place : new int[] {-1, 16, 17, -16, LEAST, MOST}) {
                C.due("node(" + what + ", " + place + ", ..)", t.x.node(what, place, 0, 0), -1);
            }
            for (int place = 0; place <= 15; place++) {
                C.due("node(" + what + ", " + place + ", ..)", t.x.node(what, place, 0, 0), 20 + place);
            }
        }
    }

    private static void kindsOfParts() {
        C.says("Promise 3", "a part is .. not what it must be");
        for (int what : Roles.WHATS) {
            Told t = new Told();
            int e = t.number(1);
            int s = t.set(0, e);
            int[] good = Roles.good(what, e, s);
            for (int k = 0; k < 3; k++) {
                char role = Roles.of(what).charAt(k);
                if (Roles.isExpression(role)) {
                    C.due("a statement as part " + k + " of " + what, Roles.tell(t, what, good, k, s), -1);
                } else if (Roles.isStatement(role)) {
                    C.due("an expression as part " + k + " of " + what, Roles.tell(t, what, good, k, e), -1);
                }
            }
            C.due("a good node of " + what, t.x.node(what, good[0], good[1], good[2]), s + 1);
        }
    }

    private static void elseOrNothing() {
        C.says("Terms", "16 IF a is not 0, b, else c (NONE: nothing)");
        Told t = new Told();
        int e = t.number(1);
        int s = t.set(0, e);
        C.due("else -2", t.when(e, s, -2), -1);
        C.due("else least", t.when(e, s, LEAST), -1);
        C.due("else an expression", t.when(e, s, e), -1);
        C.due("else itself", t.when(e, s, s + 1), -1);
        C.due("b NONE", t.when(e, -1, s), -1);
        C.due("else NONE", t.when(e, s, -1), s + 1);
        C.due("else a statement", t.when(e, s, s), s + 2);
    }

    private static void handlerOrNothing() {
        C.says("Terms", "18 LIMIT a: b, as long as a is not 0; c is the handler");
        Told t = new Told();
        int e = t.number(1);
        int s = t.set(0, e);
        C.due("handler NONE", t.limit(e, s, -1), -1);
        C.due("handler an expression", t.limit(e, s, e), -1);
        C.due("handler itself", t.limit(e, s, s + 1), -1);
        C.due("handler a statement", t.limit(e, s, s), s + 1);
    }

    private static void notLookedAt() {
        C.says("Promise 3", "what is not told of it is not looked at");
        for (int what : Roles.WHATS) {
            Told t = new Told();
            int e = t.number(1);
            int s = t.set(9, e);
            int deepE = t.deepExpression(30);
            int deepS = t.deepStatement(30);
            int next = deepS + 1;
            int[] good = Roles.good(what, e, s);
            for (int k = 0; k < 3; k++) {
                if (Roles.of(what).charAt(k) != '-') {
                    continue;
                }
                for (int any : new int[] {LEAST, -2, -1, e, s, deepE, deepS, next, 199, 200, MOST}) {
                    C.due("node " + what + " with " + any + " as " + k, Roles.tell(t, what, good, k, any), next);
                    next++;
                }
            }
        }
    }

    private static void closingSteps() {
        C.says("Terms", "CLOSING steps, in which only 10, 11, 12 and 16 stand");
        for (int what : Roles.WHATS) {
            if (what < 10) {
                continue;
            }
            Told t = new Told();
            int e = t.number(1);
            int s = t.set(0, e);
            int[] good = Roles.good(what, e, s);
            int other = t.x.node(what, good[0], good[1], good[2]);
            boolean fits = what == 10 || what == 11 || what == 12 || what == 16;
            int[] around = {other, t.then(other, s), t.then(s, other), t.when(e, other, s), t.when(e, s, other),
                t.when(e, other, -1), t.then(s, t.when(e, s, t.then(other, s)))};
            for (int i = 0; i < around.length; i++) {
                C.due(what + " in closing steps, form " + i, t.closing(s, around[i]) >= 0, fits);
                C.due(what + " before closing steps, form " + i, t.closing(around[i], s) >= 0, true);
            }
        }
    }
}
