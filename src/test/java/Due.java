/** Counts answers; prints those that are not as due. */
final class Due {
    private final String name;
    private String sentence = "";
    private int sentences = 0;
    private int asked = 0;
    private int askedBefore = 0;
    private int wrong = 0;

    Due(String name) {
        this.name = name;
    }

    /** The answers from here on are due by this sentence of the document. */
    void by(String words) {
        closeSentence();
        sentence = words;
        sentences++;
        askedBefore = asked;
    }

    /** A sentence under which nothing was asked has no test. */
    private void closeSentence() {
        if (!sentence.isEmpty() && asked == askedBefore) {
            tell("nothing was asked");
        }
    }

    private void tell(String words) {
        wrong++;
        if (wrong <= 40) {
            System.out.println(name + ": " + (sentence.isEmpty() ? "" : "[" + sentence + "] ") + words);
        }
    }

    void is(String what, long got, long want) {
        asked++;
        if (got != want) {
            tell(what + " answered " + got + ", due is " + want);
        }
    }

    void is(String what, boolean got, boolean want) {
        is(what, got ? 1 : 0, want ? 1 : 0);
    }

    void is(String what, String got, String want) {
        asked++;
        if (!want.equals(got)) {
            tell(what + " answered " + got + ", due is " + want);
        }
    }

    void end() {
        closeSentence();
        String by = sentences == 0 ? "" : " by " + sentences + " sentences";
        System.out.println(name + ": " + asked + " answers" + by + ", " + wrong + " not as due");
        if (wrong != 0 || asked == 0) {
            System.exit(1);
        }
    }
}
