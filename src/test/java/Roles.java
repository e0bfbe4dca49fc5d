/**
 * What a, b and c of a node are: e an expression, s a statement, k closing steps, n a statement or NONE, p the
 * number of an output or a name, - what is not looked at.
 */
final class Roles {
    static final int[] WHATS = {0, 1, 2, 3, 4, 5, 10, 11, 12, 13, 14, 15, 16, 17, 18, 19, 20, 21};

    private Roles() {
    }

    static String of(int what) {
        switch (what) {
            case 10: case 15:
                return "ss-";
            case 11: case 12:
                return "pe-";
            case 13: case 14:
                return "e--";
            case 16:
                return "esn";
            case 17:
                return "es-";
            case 18:
                return "ess";
            case 19:
                return "pee";
            case 20:
                return "p--";
            case 21:
                return "sk-";
            default:
                return "ee-";
        }
    }

    static boolean isExpression(char role) {
        return role == 'e';
    }

    static boolean isStatement(char role) {
        return role == 's' || role == 'k' || role == 'n';
    }

    /** a, b and c of a node that is good; e and s are an expression and a statement that fits closing steps. */
    static int[] good(int what, int e, int s) {
        int[] parts = new int[3];
        for (int k = 0; k < 3; k++) {
            char role = of(what).charAt(k);
            parts[k] = isExpression(role) ? e : isStatement(role) ? s : role == 'p' ? 9 : Integer.MIN_VALUE;
        }
        return parts;
    }

    /** The node that is good, but for its part k. */
    static int tell(Told t, int what, int[] good, int k, int part) {
        int[] parts = good.clone();
        parts[k] = part;
        return t.x.node(what, parts[0], parts[1], parts[2]);
    }
}
