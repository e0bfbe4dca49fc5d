/** Counts the answers that are as due, and prints every one that is not. */
final class Checks {
    private final String name;
    private String sentence = "";
    private int passed;
    private int failed;

    Checks(String name) {
        this.name = name;
    }

    /** The sentence of the document by which the answers from now on are due. */
    void says(String where, String words) {
        sentence = " (" + where + ": \"" + words + "\")";
    }

    void due(String call, long got, long want) {
        if (got == want) {
            passed++;
        } else {
            failed++;
            System.out.println(name + ": " + call + " answered " + got + ", due is " + want + sentence);
        }
    }

    void due(String call, boolean got, boolean want) {
        due(call, got ? 1 : 0, want ? 1 : 0);
    }

    void end() {
        System.out.println(name + ": " + passed + " passed, " + failed + " failed");
        if (failed != 0 || passed == 0) {
            System.exit(1);
        }
    }
}
