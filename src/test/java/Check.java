/** Compares answers with those that are due, and ends the test with exit code 1 if one was wrong. */
final class Check {
    private static final int MOST_SHOWN = 400;
    private static final int MOST_SHOWN_OF_A_SENTENCE = 4;

    private final String test;
    private String section = "";
    private String sentence = "";
    private int sentences;
    private long answers;
    private long wrong;
    private int shown;
    private int shownOfSentence;

    Check(String test) {
        this.test = test;
    }

    /** Names the section of the document in which the next sentences stand. */
    void section(String section) {
        this.section = section;
    }

    /** Runs the test of one sentence of the document, which is told with each wrong answer. */
    void holds(String sentence, Runnable test) {
        this.sentence = " (" + section + ": \"" + sentence + "\")";
        sentences++;
        shownOfSentence = 0;
        long before = answers;
        try {
            test.run();
        } catch (RuntimeException thrown) {
            isSo("not to throw " + thrown, false);
        }
        isSo("the test compares answers", answers > before);
        isSo("the document has the sentence", Document.says(section, sentence));
        this.sentence = "";
    }

    void due(String call, long got, long want) {
        answers++;
        if (got != want) {
            wrong++;
            if (shown < MOST_SHOWN && (sentence.isEmpty() || shownOfSentence < MOST_SHOWN_OF_A_SENTENCE)) {
                shown++;
                shownOfSentence++;
                System.out.println(test + sentence + ": " + call + " answered " + got + ", due is " + want);
            }
        }
    }

    void isSo(String what, boolean so) {
        due(what, so ? 1 : 0, 1);
    }

    boolean allRight() {
        return wrong == 0;
    }

    void end() {
        String tested = sentences == 0 ? "" : sentences + " sentences, ";
        System.out.println(test + ": " + tested + answers + " answers, " + wrong + " wrong");
        if (wrong != 0) {
            System.exit(1);
        }
    }
}
