import java.util.ArrayList;
import java.util.List;
import java.util.TreeMap;

/**
 * The document a second time, built another way than StepWalk: a run is a tree of branches, each a pile of frames
 * that grows and shrinks as the walk goes on, and a fault is an exception.
 */
final class Model {
    private static final class Fault extends Exception {
        private static final long serialVersionUID = 1;
        final int node;
        final int kind;

        Fault(int node, int kind) {
            super(null, null, false, false);
            this.node = node;
            this.kind = kind;
        }
    }

    private enum Kind { BEGIN, STILL, FORK, AGAIN, LIMIT, GUARD, CLOSING }

    private static final class Frame {
        final Kind kind;
        final int node;
        int begunIn;
        long n;
        long from;
        long goal;
        boolean answered;
        Branch left;
        Branch right;

        Frame(Kind kind, int node) {
            this.kind = kind;
            this.node = node;
        }
    }

    private static final class Branch {
        final List<Frame> pile = new ArrayList<>();

        Branch(int node) {
            pile.add(new Frame(Kind.BEGIN, node));
        }

        Frame top() {
            return pile.get(pile.size() - 1);
        }

        Frame pop() {
            return pile.remove(pile.size() - 1);
        }

        void push(Frame f) {
            pile.add(f);
        }
    }

    /** what, a, b, c, or -1 - kind for a leaf, with its v in leafValue. */
    private final List<int[]> nodes = new ArrayList<>();
    private final List<Long> leafValue = new ArrayList<>();
    private final long[] signals = new long[16];
    private long[] names = new long[16];
    private long[] outputs = new long[16];
    private final TreeMap<Integer, Long> safes = new TreeMap<>();
    private List<int[]> alarms = new ArrayList<>();
    private List<Integer> closed = new ArrayList<>();
    private Branch root;
    private int state = -1;
    private int now;
    private int begun;
    private boolean counting = true;

    private boolean there(int k) {
        return k >= 0 && k < nodes.size();
    }

    private boolean isExpression(int k) {
        return there(k) && nodes.get(k)[0] < 10;
    }

    private boolean isStatement(int k) {
        return there(k) && nodes.get(k)[0] >= 10;
    }

    private static boolean isPlace(long k) {
        return k >= 0 && k <= 15;
    }

    private List<Integer> statementsIn(int[] n) {
        switch (n[0]) {
            case 10: case 15: case 21: return List.of(n[1], n[2]);
            case 16: return n[3] == -1 ? List.of(n[2]) : List.of(n[2], n[3]);
            case 17: return List.of(n[2]);
            case 18: return List.of(n[2], n[3]);
            default: return List.of();
        }
    }

    private List<Integer> expressionsIn(int[] n) {
        switch (n[0]) {
            case 0: case 1: case 2: case 3: case 4: case 5: return List.of(n[1], n[2]);
            case 11: case 12: return List.of(n[2]);
            case 13: case 14: case 16: case 17: case 18: return List.of(n[1]);
            case 19: return List.of(n[2], n[3]);
            default: return List.of();
        }
    }

    private int depth(int[] n) {
        int deepest = 0;
        for (int k : statementsIn(n)) deepest = Math.max(deepest, depth(nodes.get(k)));
        for (int k : expressionsIn(n)) deepest = Math.max(deepest, depth(nodes.get(k)));
        return deepest + 1;
    }

    private long statements(int[] n) {
        long sum = 1;
        for (int k : statementsIn(n)) sum += statements(nodes.get(k));
        return sum;
    }

    private long inExpression(int[] n) {
        long sum = 1;
        for (int k : expressionsIn(n)) sum += inExpression(nodes.get(k));
        return sum;
    }

    private boolean onlyClosing(int[] n) {
        if (n[0] != 10 && n[0] != 11 && n[0] != 12 && n[0] != 16) return false;
        for (int k : statementsIn(n)) if (!onlyClosing(nodes.get(k))) return false;
        return true;
    }

    int leaf(int kind, long v) {
        if (kind < 0 || kind > 3 || (kind == 1 || kind == 2) && !isPlace(v)) return -1;
        if (nodes.size() == 200) return -2;
        nodes.add(new int[] {-1 - kind, 0, 0, 0});
        leafValue.add(v);
        return nodes.size() - 1;
    }

    int node(int what, int a, int b, int c) {
        int[] n = {what, a, b, c};
        if (what < 0 || what > 5 && what < 10 || what > 21) return -1;
        for (int k : expressionsIn(n)) if (!isExpression(k)) return -1;
        for (int k : statementsIn(n)) if (!isStatement(k)) return -1;
        if ((what == 11 || what == 12 || what == 19 || what == 20) && !isPlace(a)) return -1;
        if (what == 21 && !onlyClosing(nodes.get(b))) return -1;
        if (depth(n) > 30) return -1;
        if (what < 10 && inExpression(n) > 200) return -1;
        if (nodes.size() == 200) return -2;
        nodes.add(n);
        leafValue.add(0L);
        return nodes.size() - 1;
    }

    boolean signal(int k, long v) {
        if (!isPlace(k)) return false;
        signals[k] = v;
        return true;
    }

    int start(int k) {
        if (!isStatement(k)) return -1;
        long count = statements(nodes.get(k));
        if (count > 500) return -2;
        root = new Branch(k);
        names = new long[16];
        outputs = new long[16];
        alarms = new ArrayList<>();
        closed = new ArrayList<>();
        now = 0;
        state = 0;
        return (int) count;
    }

    private long reckon(int k) throws Fault {
        int[] n = nodes.get(k);
        if (n[0] == -1) return leafValue.get(k);
        if (n[0] == -2) return signals[(int) (long) leafValue.get(k)];
        if (n[0] == -3) return names[(int) (long) leafValue.get(k)];
        if (n[0] == -4) return now;
        long a = reckon(n[1]);
        long b = reckon(n[2]);
        if (n[0] == 0) return a + b;
        if (n[0] == 1) return a - b;
        if (n[0] == 2) return a * b;
        if (n[0] == 4) return a < b ? 1 : 0;
        if (n[0] == 5) return a == b ? 1 : 0;
        if (b == 0) throw new Fault(k, 1);
        return a / b;
    }

    private void note(int node, int kind) {
        alarms.add(new int[] {now, node, kind});
    }

    /** Begins the statement that is to be begun at the top of the branch. */
    private void begin(Branch branch) throws Fault {
        int k = branch.top().node;
        int[] n = nodes.get(k);
        if (counting) {
            if (begun == 1000) throw new Fault(k, 2);
            begun++;
        }
        List<Integer> needs = expressionsIn(n);
        long x = needs.size() > 0 ? reckon(needs.get(0)) : 0;
        long y = needs.size() > 1 ? reckon(needs.get(1)) : 0;
        branch.pop();
        Frame still = new Frame(Kind.STILL, k);
        still.begunIn = now;
        switch (n[0]) {
            case 10:
                branch.push(new Frame(Kind.BEGIN, n[2]));
                branch.push(new Frame(Kind.BEGIN, n[1]));
                break;
            case 11:
                outputs[n[1]] = x;
                break;
            case 12:
                names[n[1]] = x;
                break;
            case 13:
                if (x >= 1) {
                    still.n = x;
                    branch.push(still);
                }
                break;
            case 14:
                if (x == 0) branch.push(still);
                break;
            case 15: {
                Frame fork = new Frame(Kind.FORK, k);
                fork.left = new Branch(n[1]);
                fork.right = new Branch(n[2]);
                branch.push(fork);
                break;
            }
            case 16:
                if (x != 0) branch.push(new Frame(Kind.BEGIN, n[2]));
                else if (n[3] != -1) branch.push(new Frame(Kind.BEGIN, n[3]));
                break;
            case 17: {
                Frame again = new Frame(Kind.AGAIN, n[2]);
                again.n = x;
                branch.push(again);
                break;
            }
            case 18:
                if (x == 0) {
                    note(k, 3);
                    branch.push(new Frame(Kind.BEGIN, n[3]));
                } else {
                    branch.push(new Frame(Kind.LIMIT, k));
                    branch.push(new Frame(Kind.BEGIN, n[2]));
                }
                break;
            case 19:
                if (y < 1) {
                    outputs[n[1]] = x;
                } else {
                    still.n = y;
                    still.from = outputs[n[1]];
                    still.goal = x;
                    branch.push(still);
                }
                break;
            case 20:
                branch.push(still);
                break;
            default:
                branch.push(new Frame(Kind.GUARD, k));
                branch.push(new Frame(Kind.BEGIN, n[1]));
                break;
        }
    }

    private boolean stillOver(Frame f) throws Fault {
        int[] n = nodes.get(f.node);
        long i = now - f.begunIn;
        switch (n[0]) {
            case 13:
                return i >= f.n;
            case 14:
                return i > 0 && reckon(n[1]) != 0;
            case 19:
                outputs[n[1]] = i >= f.n ? f.goal : f.from + Math.floorDiv((f.goal - f.from) * i, f.n);
                return i >= f.n;
            default:
                return f.answered;
        }
    }

    /** Goes on until something stands still or no more than so many frames are left. */
    private void goOn(Branch branch, int left) throws Fault {
        while (branch.pile.size() > left) {
            Frame f = branch.top();
            switch (f.kind) {
                case BEGIN:
                    begin(branch);
                    break;
                case STILL:
                    if (!stillOver(f)) return;
                    branch.pop();
                    break;
                case FORK:
                    goOn(f.left, 0);
                    goOn(f.right, 0);
                    if (!f.left.pile.isEmpty() || !f.right.pile.isEmpty()) return;
                    branch.pop();
                    break;
                case AGAIN:
                    if (f.n < 1) {
                        branch.pop();
                    } else {
                        f.n--;
                        branch.push(new Frame(Kind.BEGIN, f.node));
                    }
                    break;
                case LIMIT:
                    branch.pop();
                    break;
                case GUARD:
                    branch.pop();
                    branch.push(new Frame(Kind.CLOSING, f.node));
                    branch.push(new Frame(Kind.BEGIN, nodes.get(f.node)[2]));
                    break;
                default:
                    branch.pop();
                    closed.add(f.node);
                    break;
            }
        }
    }

    private int closingFrame(Branch branch) {
        for (int i = 0; i < branch.pile.size(); i++) {
            if (branch.pile.get(i).kind == Kind.CLOSING) return i;
        }
        return -1;
    }

    private void closeQuietly(Branch branch, int left, int node) {
        counting = false;
        try {
            goOn(branch, left);
        } catch (Fault f) {
            note(f.node, f.kind);
        }
        counting = true;
        closed.add(node);
    }

    /** Gives up all frames of the branch but so many. */
    private void giveUp(Branch branch, int left) {
        int closing = closingFrame(branch);
        if (closing >= left) {
            closeQuietly(branch, closing + 1, branch.pile.get(closing).node);
            while (branch.pile.size() > closing) branch.pop();
        }
        while (branch.pile.size() > left) {
            Frame f = branch.pop();
            if (f.kind == Kind.FORK) {
                giveUp(f.left, 0);
                giveUp(f.right, 0);
            } else if (f.kind == Kind.GUARD) {
                closeQuietly(new Branch(nodes.get(f.node)[2]), 0, f.node);
            }
        }
    }

    private void look(Branch branch) throws Fault {
        for (int i = 0; i < branch.pile.size(); i++) {
            Frame f = branch.pile.get(i);
            if (f.kind == Kind.FORK) {
                look(f.left);
                look(f.right);
            } else if (f.kind == Kind.LIMIT && reckon(nodes.get(f.node)[1]) == 0) {
                note(f.node, 3);
                giveUp(branch, i + 1);
                branch.pop();
                branch.push(new Frame(Kind.BEGIN, nodes.get(f.node)[3]));
            }
        }
    }

    int tick(int seconds) {
        if (state == -1 || seconds < 0 || seconds > 10000) return -1;
        for (int i = 0; i < seconds && state == 0; i++) {
            begun = 0;
            try {
                look(root);
                goOn(root, 0);
                if (root.pile.isEmpty()) state = 1;
            } catch (Fault f) {
                note(f.node, f.kind);
                state = 2;
            }
            now++;
        }
        return state;
    }

    long output(int k) {
        if (!isPlace(k)) return 0;
        return state == 2 && safes.containsKey(k) ? safes.get(k) : outputs[k];
    }

    private void collectStill(Branch branch, List<Frame> into) {
        for (Frame f : branch.pile) {
            if (f.kind == Kind.STILL) into.add(f);
            if (f.kind == Kind.FORK) {
                collectStill(f.left, into);
                collectStill(f.right, into);
            }
        }
    }

    private List<Frame> still() {
        List<Frame> all = new ArrayList<>();
        if (state == 0 || state == 2) collectStill(root, all);
        return all;
    }

    int step(int k) {
        List<Frame> all = still();
        return k >= 0 && k < all.size() ? all.get(k).node : -1;
    }

    int alarm(int k, int what) {
        return k >= 0 && k < alarms.size() && k < 200 && what >= 0 && what < 3 ? alarms.get(k)[what] : -1;
    }

    boolean answer(long v) {
        if (state == 2) return false;
        for (Frame f : still()) {
            if (nodes.get(f.node)[0] == 20 && !f.answered) {
                f.answered = true;
                names[nodes.get(f.node)[1]] = v;
                return true;
            }
        }
        return false;
    }

    boolean hold(boolean on) {
        if (state != 0 && state != 2) return false;
        boolean fresh = (state == 2) != on;
        state = on ? 2 : 0;
        return fresh;
    }

    int stop() {
        if (state != 0 && state != 2) return -1;
        int before = closed.size();
        giveUp(root, 0);
        state = 3;
        return closed.size() - before;
    }

    int closed(int k) {
        return k >= 0 && k < closed.size() && k < 200 ? closed.get(k) : -1;
    }

    long value(int k) {
        return isPlace(k) ? names[k] : 0;
    }

    boolean safe(int k, long v) {
        if (!isPlace(k)) return false;
        safes.put(k, v);
        return true;
    }
}
