import java.util.Arrays;

/** The walk of step programs by seconds. */
public final class StepWalk {
    public static final int NONE = -1;
    public static final int FULL = -2;

    private static final int MOST_PARTS = 200;
    private static final int MOST_DEPTH = 30;
    private static final int MOST_IN_EXPRESSION = 200;
    private static final int MOST_STATEMENTS = 500;
    private static final int MOST_BEGUN = 1000;
    private static final int MOST_SECONDS = 10000;
    private static final int MOST_NOTED = 200;
    private static final int PLACES = 16;

    private static final int ADD = 0;
    private static final int SUBTRACT = 1;
    private static final int MULTIPLY = 2;
    private static final int DIVIDE = 3;
    private static final int LESS = 4;
    private static final int EQUAL = 5;
    private static final int THEN = 10;
    private static final int SET = 11;
    private static final int LET = 12;
    private static final int WAIT = 13;
    private static final int UNTIL = 14;
    private static final int SIDE_BY_SIDE = 15;
    private static final int IF = 16;
    private static final int REPEAT = 17;
    private static final int LIMIT = 18;
    private static final int RAMP = 19;
    private static final int ASK = 20;
    private static final int CLOSING = 21;

    // Leaves share one field with the nodes, so their kinds are moved behind the last node.
    private static final int LEAF = 30;
    private static final int NUMBER = 30;
    private static final int SIGNAL = 31;
    private static final int NAME = 32;
    private static final int SECOND = 33;
    private static final int LEAF_KINDS = 4;

    private static final int NOT_BEGUN = 0;
    private static final int IN_FIRST = 1;
    private static final int IN_SECOND = 2;
    private static final int OVER = 3;

    // The states of a run are what tick answers; NONE is the state without a run.
    private static final int GOES_ON = 0;
    private static final int ENDED = 1;
    private static final int HELD = 2;
    private static final int STOPPED = 3;

    private static final int DIVISION = 1;
    private static final int TOO_MANY = 2;
    private static final int PASSED = 3;

    private final Program program;
    private final Walk walk;

    public StepWalk() {
        program = new Program();
        walk = new Walk();
    }

    public int leaf(int kind, long v) {
        return program.addLeaf(kind, v);
    }

    public int node(int what, int a, int b, int c) {
        return program.addNode(what, a, b, c);
    }

    public boolean signal(int k, long v) {
        return put(walk.world.signals, k, v);
    }

    public int start(int root) {
        Part part = program.partAt(root);
        if (part == null || !part.isStatement()) {
            return NONE;
        }
        if (part.count > MOST_STATEMENTS) {
            return FULL;
        }
        walk.beginRun(part);
        return (int) part.count;
    }

    public int tick(int seconds) {
        if (walk.state == NONE || seconds < 0 || seconds > MOST_SECONDS) {
            return NONE;
        }
        for (int i = 0; i < seconds && walk.state == GOES_ON; i++) {
            walk.doSecond();
        }
        return walk.state;
    }

    public long output(int k) {
        return walk.state == HELD && walk.world.hasSafe(k) ? get(walk.world.safes, k) : get(walk.world.outputs, k);
    }

    public int step(int branch) {
        return walk.nodeStandingStill(branch);
    }

    public int alarm(int k, int what) {
        return walk.log.alarmAt(k, what);
    }

    public boolean answer(long v) {
        return walk.answerFirstAsk(v);
    }

    public boolean hold(boolean on) {
        return walk.setHeld(on);
    }

    public int stop() {
        return walk.giveUpAll();
    }

    public int closed(int k) {
        return walk.log.closedAt(k);
    }

    public long value(int name) {
        return get(walk.world.names, name);
    }

    public boolean safe(int output, long v) {
        return walk.world.tellSafe(output, v);
    }

    private static long get(long[] row, int k) {
        return k >= 0 && k < row.length ? row[k] : 0;
    }

    private static boolean put(long[] row, int k, long v) {
        if (k < 0 || k >= row.length) {
            return false;
        }
        row[k] = v;
        return true;
    }

    /** A leaf or a node as it was told; its expressions and statements are sorted apart, each in their order. */
    private static final class Part {
        final int what;
        int number;
        int place;
        long v;
        Part x;
        Part y;
        Part first;
        Part second;
        int depth = 1;
        /** Of an expression its leaves and nodes, of a statement its statements. */
        long count = 1;
        boolean fitsClosing;

        Part(int what) {
            this.what = what;
            fitsClosing = what == THEN || what == SET || what == LET || what == IF;
        }

        boolean isStatement() {
            return what >= THEN && what <= CLOSING;
        }

        boolean takePlace(int k) {
            place = k;
            return k >= 0 && k < PLACES;
        }

        boolean takeExpression(Part part) {
            if (part == null || part.isStatement()) {
                return false;
            }
            if (x == null) {
                x = part;
            } else {
                y = part;
            }
            if (!isStatement()) {
                count += part.count;
            }
            depth = Math.max(depth, part.depth + 1);
            return true;
        }

        boolean takeStatement(Part part) {
            if (part == null || !part.isStatement()) {
                return false;
            }
            if (first == null) {
                first = part;
            } else {
                second = part;
            }
            count += part.count;
            depth = Math.max(depth, part.depth + 1);
            fitsClosing = fitsClosing && part.fitsClosing;
            return true;
        }

        boolean takeClosing(Part part) {
            return part != null && part.fitsClosing && takeStatement(part);
        }
    }

    /** The leaves and nodes by their numbers. */
    private static final class Program {
        private final Part[] parts = new Part[MOST_PARTS];
        private int size;

        Part partAt(int number) {
            return number >= 0 && number < size && number < parts.length ? parts[number] : null;
        }

        int addLeaf(int kind, long v) {
            if (kind < 0 || kind >= LEAF_KINDS) {
                return NONE;
            }
            Part leaf = new Part(LEAF + kind);
            leaf.v = v;
            if (leaf.what == SIGNAL || leaf.what == NAME) {
                if (v < 0 || v >= PLACES) {
                    return NONE;
                }
                leaf.place = (int) v;
            }
            return add(leaf);
        }

        int addNode(int what, int a, int b, int c) {
            Part node = new Part(what);
            if (!takeParts(node, a, b, c) || node.depth > MOST_DEPTH) {
                return NONE;
            }
            if (!node.isStatement() && node.count > MOST_IN_EXPRESSION) {
                return NONE;
            }
            return add(node);
        }

        private int add(Part part) {
            if (size >= parts.length) {
                return FULL;
            }
            part.number = size;
            parts[size] = part;
            size++;
            return part.number;
        }

        /** Whether what was told of the node is what it must be; false too for what is no node. */
        private boolean takeParts(Part node, int a, int b, int c) {
            switch (node.what) {
                case ADD:
                case SUBTRACT:
                case MULTIPLY:
                case DIVIDE:
                case LESS:
                case EQUAL:
                    return node.takeExpression(partAt(a)) && node.takeExpression(partAt(b));
                case THEN:
                case SIDE_BY_SIDE:
                    return node.takeStatement(partAt(a)) && node.takeStatement(partAt(b));
                case SET:
                case LET:
                    return node.takePlace(a) && node.takeExpression(partAt(b));
                case WAIT:
                case UNTIL:
                    return node.takeExpression(partAt(a));
                case IF:
                    return node.takeExpression(partAt(a)) && node.takeStatement(partAt(b))
                            && (c == NONE || node.takeStatement(partAt(c)));
                case REPEAT:
                    return node.takeExpression(partAt(a)) && node.takeStatement(partAt(b));
                case LIMIT:
                    return node.takeExpression(partAt(a)) && node.takeStatement(partAt(b))
                            && node.takeStatement(partAt(c));
                case RAMP:
                    return node.takePlace(a) && node.takeExpression(partAt(b))
                            && node.takeExpression(partAt(c));
                case ASK:
                    return node.takePlace(a);
                case CLOSING:
                    return node.takeStatement(partAt(a)) && node.takeClosing(partAt(b));
                default:
                    return false;
            }
        }
    }

    /** What a program reads and moves. */
    private static final class World {
        final long[] signals = new long[PLACES];
        final long[] names = new long[PLACES];
        final long[] outputs = new long[PLACES];
        final long[] safes = new long[PLACES];
        private final boolean[] safeTold = new boolean[PLACES];

        void clearForRun() {
            Arrays.fill(names, 0L);
            Arrays.fill(outputs, 0L);
        }

        boolean hasSafe(int k) {
            return k >= 0 && k < safeTold.length && safeTold[k];
        }

        boolean tellSafe(int k, long v) {
            if (k < 0 || k >= safeTold.length) {
                return false;
            }
            safeTold[k] = true;
            return put(safes, k, v);
        }
    }

    /**
     * The alarms of a run, and the nodes whose closing steps were done in it. Both counts stay at the last that is
     * noted: in a long run more are done than an int can count.
     */
    private static final class Log {
        private final int[] alarmSeconds = new int[MOST_NOTED];
        private final int[] alarmNodes = new int[MOST_NOTED];
        private final int[] alarmKinds = new int[MOST_NOTED];
        private final int[] closedNodes = new int[MOST_NOTED];
        private int alarms;
        private int closings;

        void clear() {
            alarms = 0;
            closings = 0;
        }

        void addAlarm(int second, int node, int kind) {
            if (alarms < 0 || alarms >= MOST_NOTED) {
                return;
            }
            alarmSeconds[alarms] = second;
            alarmNodes[alarms] = node;
            alarmKinds[alarms] = kind;
            alarms++;
        }

        void addClosed(int node) {
            if (closings < 0 || closings >= closedNodes.length) {
                return;
            }
            closedNodes[closings] = node;
            closings++;
        }

        int alarmAt(int k, int what) {
            if (k < 0 || k >= alarms || k >= MOST_NOTED) {
                return NONE;
            }
            switch (what) {
                case 0:
                    return alarmSeconds[k];
                case 1:
                    return alarmNodes[k];
                case 2:
                    return alarmKinds[k];
                default:
                    return NONE;
            }
        }

        int closedAt(int k) {
            return k >= 0 && k < closings && k < closedNodes.length ? closedNodes[k] : NONE;
        }
    }

    /** A statement at one place of the run's text: a node that stands in it twice has two spots. */
    private static final class Spot {
        int what;
        int number;
        int place;
        Part x;
        Part y;
        Spot first;
        Spot second;
        int stage;
        /** The second of its begin; gotX and gotY are what x and y were then, from what a ramp's output was. */
        int since;
        long gotX;
        long gotY;
        long from;
        boolean answered;

        void lay(Part part) {
            what = part.what;
            number = part.number;
            place = part.place;
            x = part.x;
            y = part.y;
            stage = NOT_BEGUN;
        }

        void open(int now, long reckonedX, long reckonedY) {
            since = now;
            gotX = reckonedX;
            gotY = reckonedY;
            answered = false;
            stage = IN_FIRST;
            renew(first);
            renew(second);
        }

        boolean isOpen() {
            return stage == IN_FIRST || stage == IN_SECOND;
        }

        boolean standsStill() {
            return isOpen() && (what == WAIT || what == UNTIL || what == RAMP || what == ASK);
        }

        /** The spots below need none of it: each is renewed when the one around it is begun. */
        static void renew(Spot spot) {
            if (spot != null) {
                spot.stage = NOT_BEGUN;
            }
        }
    }

    /**
     * The run. Its spots lie in the order of the text, what is around before what is in it. No spot inside
     * of one that is over stands still or is a limit that stands, so a loop over all spots finds only live ones.
     */
    private static final class Walk {
        final World world = new World();
        final Log log = new Log();
        private final Spot[] spots = new Spot[MOST_STATEMENTS];
        private int used;
        private Spot root;
        int state = NONE;
        private int second;
        private int begun;
        /** A fault has happened: what is behind it is not done. */
        private boolean cut;
        /** Closing steps are done for something given up: nothing is counted there. */
        private boolean givingUp;

        void beginRun(Part part) {
            world.clearForRun();
            log.clear();
            second = 0;
            used = 0;
            root = layOut(part);
            state = GOES_ON;
        }

        private Spot layOut(Part part) {
            if (part == null || used >= spots.length) {
                return null;
            }
            Spot spot = spots[used];
            if (spot == null) {
                spot = new Spot();
                spots[used] = spot;
            }
            used++;
            spot.lay(part);
            spot.first = layOut(part.first);
            spot.second = layOut(part.second);
            return spot;
        }

        void doSecond() {
            begun = 0;
            lookAtLimits();
            boolean ended = goOn(root);
            if (cut) {
                state = HELD;
            } else if (ended) {
                state = ENDED;
            }
            cut = false;
            second++;
        }

        private void lookAtLimits() {
            for (int i = 0; i < used && i < spots.length && !cut; i++) {
                Spot spot = spots[i];
                if (spot == null || spot.what != LIMIT || spot.stage != IN_FIRST) {
                    continue;
                }
                if (reckon(spot.x) == 0 && !cut) {
                    log.addAlarm(second, spot.number, PASSED);
                    giveUp(spot.first);
                    spot.stage = IN_SECOND;
                }
            }
        }

        /** Whether the statement has ended; no statement at all has. */
        private boolean goOn(Spot spot) {
            if (cut) {
                return false;
            }
            if (spot == null || spot.stage == OVER) {
                return true;
            }
            if (spot.stage == NOT_BEGUN && !begin(spot)) {
                return false;
            }
            if (!advance(spot)) {
                return false;
            }
            spot.stage = OVER;
            return true;
        }

        private boolean begin(Spot spot) {
            if (!givingUp && begun >= MOST_BEGUN) {
                log.addAlarm(second, spot.number, TOO_MANY);
                cut = true;
                return false;
            }
            if (!givingUp) {
                begun++;
            }
            long gotX = reckon(spot.x);
            long gotY = reckon(spot.y);
            if (cut) {
                return false;
            }
            spot.open(second, gotX, gotY);
            takeEffect(spot);
            return true;
        }

        private void takeEffect(Spot spot) {
            switch (spot.what) {
                case SET:
                    put(world.outputs, spot.place, spot.gotX);
                    break;
                case LET:
                    put(world.names, spot.place, spot.gotX);
                    break;
                case RAMP:
                    spot.from = get(world.outputs, spot.place);
                    break;
                case IF:
                    spot.stage = spot.gotX != 0 ? IN_FIRST : IN_SECOND;
                    break;
                case LIMIT:
                    if (spot.gotX == 0) {
                        log.addAlarm(second, spot.number, PASSED);
                        spot.stage = IN_SECOND;
                    }
                    break;
                default:
                    break;
            }
        }

        private boolean advance(Spot spot) {
            switch (spot.what) {
                case WAIT:
                    return second - spot.since >= spot.gotX;
                case UNTIL:
                    // In the second of its begin it has been looked at by that.
                    return (second == spot.since ? spot.gotX : reckon(spot.x)) != 0 && !cut;
                case RAMP:
                    return moveRamp(spot);
                case ASK:
                    return spot.answered;
                case THEN:
                case CLOSING:
                    return goOnInOrder(spot);
                case SIDE_BY_SIDE:
                    return goOnSideBySide(spot);
                case IF:
                case LIMIT:
                    return goOn(spot.stage == IN_FIRST ? spot.first : spot.second);
                case REPEAT:
                    return goOnRepeating(spot);
                default:
                    return true;
            }
        }

        private boolean moveRamp(Spot spot) {
            long gone = second - spot.since;
            if (spot.gotY < 1 || gone >= spot.gotY) {
                put(world.outputs, spot.place, spot.gotX);
                return true;
            }
            long way = Math.floorDiv((spot.gotX - spot.from) * gone, spot.gotY);
            put(world.outputs, spot.place, spot.from + way);
            return false;
        }

        private boolean goOnInOrder(Spot spot) {
            if (!goOn(spot.first)) {
                return false;
            }
            spot.stage = IN_SECOND;
            if (!goOn(spot.second)) {
                return false;
            }
            if (spot.what == CLOSING) {
                log.addClosed(spot.number);
            }
            return true;
        }

        private boolean goOnSideBySide(Spot spot) {
            boolean firstEnded = goOn(spot.first);
            boolean secondEnded = goOn(spot.second);
            return firstEnded && secondEnded;
        }

        private boolean goOnRepeating(Spot spot) {
            // Every round but the first begins a statement, and the last begin may be the one too many.
            for (int round = 0; round < MOST_BEGUN + 2 && spot.gotX > 0; round++) {
                if (!goOn(spot.first)) {
                    return false;
                }
                spot.gotX--;
                Spot.renew(spot.first);
            }
            return spot.gotX < 1;
        }

        /** How many closing steps were done by that; those that had begun go on from where they stand. */
        private int giveUp(Spot spot) {
            if (spot == null || !spot.isOpen()) {
                return 0;
            }
            int done = giveUp(spot.first);
            if (spot.what == CLOSING) {
                givingUp = true;
                goOn(spot.second);
                givingUp = false;
                // A fault there ends those closing steps alone.
                cut = false;
                log.addClosed(spot.number);
                done++;
            } else {
                done += giveUp(spot.second);
            }
            spot.stage = OVER;
            return done;
        }

        /** When it faults, cut is set and what it answers means nothing. */
        private long reckon(Part part) {
            if (part == null || cut) {
                return 0;
            }
            switch (part.what) {
                case NUMBER:
                    return part.v;
                case SIGNAL:
                    return get(world.signals, part.place);
                case NAME:
                    return get(world.names, part.place);
                case SECOND:
                    return second;
                default:
                    break;
            }
            long x = reckon(part.x);
            long y = reckon(part.y);
            switch (part.what) {
                case ADD:
                    return x + y;
                case SUBTRACT:
                    return x - y;
                case MULTIPLY:
                    return x * y;
                case DIVIDE:
                    if (y != 0) {
                        return x / y;
                    }
                    if (!cut) {
                        log.addAlarm(second, part.number, DIVISION);
                        cut = true;
                    }
                    return 0;
                case LESS:
                    return x < y ? 1 : 0;
                case EQUAL:
                    return x == y ? 1 : 0;
                default:
                    return 0;
            }
        }

        private boolean isLive() {
            return state == GOES_ON || state == HELD;
        }

        int nodeStandingStill(int branch) {
            if (!isLive()) {
                return NONE;
            }
            int seen = 0;
            for (int i = 0; i < used && i < spots.length; i++) {
                Spot spot = spots[i];
                if (spot != null && spot.standsStill()) {
                    if (seen == branch) {
                        return spot.number;
                    }
                    seen++;
                }
            }
            return NONE;
        }

        boolean answerFirstAsk(long v) {
            if (state != GOES_ON) {
                return false;
            }
            for (int i = 0; i < used && i < spots.length; i++) {
                Spot spot = spots[i];
                if (spot != null && spot.what == ASK && spot.standsStill() && !spot.answered) {
                    spot.answered = true;
                    return put(world.names, spot.place, v);
                }
            }
            return false;
        }

        boolean setHeld(boolean on) {
            if (!isLive()) {
                return false;
            }
            int wanted = on ? HELD : GOES_ON;
            boolean isNew = state != wanted;
            state = wanted;
            return isNew;
        }

        int giveUpAll() {
            if (!isLive()) {
                return NONE;
            }
            int done = giveUp(root);
            state = STOPPED;
            return done;
        }
    }
}
