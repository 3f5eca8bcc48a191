/** Compares answers with those that are due, prints each that is not, and ends with exit code 1 then. */
final class Due {
    private final String test;
    private int wrong;
    private int calls;
    private int sentences;
    private int callsAtSentence;
    private String sentence = "";

    Due(String test) {
        this.test = test;
    }

    /** The document's sentence, as it stands there, that the answers behind this belong to. */
    void says(String words) {
        endSentence();
        sentences++;
        sentence = "\"" + words + "\": ";
    }

    private void endSentence() {
        // a sentence without a single answer is one that nobody looks at
        if (!sentence.isEmpty() && calls == callsAtSentence) {
            wrong++;
            System.out.println(test + ": " + sentence + "no answer was looked at");
        }
        callsAtSentence = calls;
    }

    void is(String call, long got, long want) {
        same(call, String.valueOf(got), String.valueOf(want));
    }

    void same(String call, String got, String want) {
        calls++;
        if (!got.equals(want)) {
            wrong++;
            System.out.println(test + ": " + sentence + call + " answered " + got + ", due is " + want);
        }
    }

    void holds(String what, boolean so) {
        is(what, so ? 1 : 0, 1);
    }

    void end() {
        endSentence();
        System.out.println(test + ": " + (sentences == 0 ? "" : sentences + " sentences, ")
                + calls + " answers, " + wrong + " not as due");
        if (wrong != 0) {
            System.exit(1);
        }
    }

    /** Types a text anew. */
    static void type(CrowMiles x, String text) {
        x.clear();
        for (int i = 0; i < text.length(); i++) {
            x.type(text.charAt(i));
        }
    }

    /** Types a text anew and reads it. */
    static int read(CrowMiles x, String text) {
        type(x, text);
        return x.read();
    }

    /** A new object with a country told by a text. */
    static CrowMiles told(String text) {
        CrowMiles x = new CrowMiles();
        if (read(x, text) < 0) {
            throw new IllegalStateException("the test's own text is at fault: " + text);
        }
        return x;
    }
}
