/** Answers that are due, and those that are not as due. */
final class Due {
    private final String test;
    private int asked = 0;
    private int wrong = 0;
    private int sentences = 0;
    private int askedAhead = 0;
    private String sentence = "";

    Due(String test) {
        this.test = test;
    }

    /** Names the sentence of the document that the next answers hold; it must stand there word by word. */
    void sentence(String heading, String words) {
        endSentence();
        sentences++;
        askedAhead = asked;
        sentence = " [" + heading + ": " + words + "]";
        if (!Doc.says(heading, words)) {
            fault("the document does not say so");
        }
    }

    void is(String call, long got, long want) {
        asked++;
        if (got != want) {
            fault(call + " answered " + got + ", due is " + want);
        }
    }

    void same(String what, String got, String want) {
        asked++;
        if (!got.equals(want)) {
            fault(what + " is " + got + ", due is " + want);
        }
    }

    /** Ends the program, with exit code 1 if an answer was not as due. */
    void end() {
        endSentence();
        String held = sentences > 0 ? sentences + " sentences, " : "";
        System.out.println(test + ": " + held + asked + " answers, " + wrong + " not as due");
        if (wrong != 0 || asked == 0) {
            System.exit(1);
        }
    }

    private void endSentence() {
        if (sentences > 0 && asked == askedAhead) {
            fault("nothing was asked");
        }
    }

    private void fault(String words) {
        wrong++;
        System.out.println(test + sentence + ": " + words);
    }
}
