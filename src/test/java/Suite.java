/** The tests of one file, each named by the promise and the sentence of the document that it holds the program to. */
final class Suite {
    interface Body {
        void run();
    }

    private final String name;
    private final String only;
    private int held;
    private int broken;

    /** With an argument only the tests whose names hold it are run. */
    Suite(String name, String[] args) {
        this.name = name;
        this.only = args.length > 0 ? args[0] : "";
    }

    void test(String sentence, Body body) {
        if (!sentence.contains(only)) {
            return;
        }
        int before = Both.wrong();
        boolean ended = false;
        try {
            body.run();
            ended = true;
        } catch (RuntimeException e) {
            System.out.println(sentence + ": " + e);
        }
        if (ended && Both.wrong() == before) {
            held++;
        } else {
            broken++;
            System.out.println("NOT HELD: " + sentence);
        }
    }

    /** Ends the program with 1 if a sentence does not hold, or if none was tested. */
    void close() {
        System.out.println(name + ": " + held + " sentences hold, " + broken + " do not");
        if (broken > 0 || held == 0) {
            System.exit(1);
        }
    }
}
