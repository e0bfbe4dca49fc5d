/** Promises 12 and 13 behind more closing steps than an int can count; it takes half a minute. */
public final class ManyClosingsTest {
    private static final Checks C = new Checks("ManyClosingsTest");
    // Nearly all of the 1,000 statements of a second are begun, so that 512 calls are enough.
    private static final int NESTED = 24;
    private static final int ROUNDS = 20;
    private static final int SECONDS = 10000;
    private static final int TICKS = (int) ((1L << 31) / (NESTED * ROUNDS * (long) SECONDS)) + 1;

    public static void main(String[] args) {
        Told t = new Told();
        int set = t.set(0, t.number(1));
        int innermost = t.closing(set, set);
        int nest = innermost;
        for (int i = 1; i < NESTED; i++) {
            nest = t.closing(nest, set);
        }
        int second = t.then(t.repeat(t.number(ROUNDS), nest), t.pause(t.number(1)));
        int around = t.closing(t.repeat(t.number(1L << 40), second), set);
        C.due("start", t.x.start(around), 3 + 3 + 2 * NESTED + 1);
        C.due("ticks that go on", ticksThatGoOn(t), TICKS);
        checkClosed(t, "while it goes on", innermost);
        C.due("stop counts its own alone", t.x.stop(), 1);
        checkClosed(t, "when stopped", innermost);

        t.x.start(around);
        C.due("a new run has none", t.x.closed(0), -1);
        t.x.tick(1);
        C.due("but those of its own", t.x.closed(0), innermost);
        C.end();
    }

    private static int ticksThatGoOn(Told t) {
        int goOn = 0;
        for (int i = 0; i < TICKS; i++) {
            if (t.x.tick(SECONDS) == 0) {
                goOn++;
            }
        }
        return goOn;
    }

    private static void checkClosed(Told t, String when, int innermost) {
        int[] shown = {0, 1, NESTED - 1, NESTED, 199};
        for (int k : shown) {
            C.due("closed(" + k + ") " + when, t.x.closed(k), innermost + k % NESTED);
        }
        C.due("closed(200) " + when, t.x.closed(200), -1);
        C.due("closed(-1) " + when, t.x.closed(-1), -1);
    }
}
