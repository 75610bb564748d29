/** Compares answers with those that are due, tells the wrong ones, and ends the test. */
final class Check {
    private final String name;
    private String sentence = "";
    private int sentences = 0;
    private int answers = 0;
    private int answersAhead = 0;
    private int wrong = 0;

    Check(String name) {
        this.name = name;
    }

    /** Tells the document's sentence that the next answers are about; one without answers is wrong. */
    void sentence(String words) {
        endSentence();
        sentence = words;
        sentences++;
        answersAhead = answers;
    }

    void due(String call, long got, long want) {
        answers++;
        if (got != want) {
            wrong++;
            System.out.println(name + ": " + call + " answered " + got + ", due is " + want);
            if (!sentence.isEmpty()) {
                System.out.println("    where the document says: " + sentence);
            }
        }
    }

    void due(String call, boolean got, boolean want) {
        due(call, got ? 1 : 0, want ? 1 : 0);
    }

    void end() {
        endSentence();
        System.out.println(name + ": " + (sentences > 0 ? sentences + " sentences, " : "") + answers + " answers, " + wrong + " wrong");
        if (wrong != 0 || answers == 0) {
            System.exit(1);
        }
    }

    private void endSentence() {
        if (sentences > 0 && answers == answersAhead) {
            wrong++;
            System.out.println(name + ": no answer is looked at for: " + sentence);
        }
    }
}
