/** Compares answers with those that are due, prints each that is not, and ends with exit code 1 then. */
final class Due {
    private final String test;
    private int wrong;
    private int calls;

    Due(String test) {
        this.test = test;
    }

    void is(String call, long got, long want) {
        calls++;
        if (got != want) {
            wrong++;
            System.out.println(test + ": " + call + " answered " + got + ", due is " + want);
        }
    }

    void holds(String what, boolean so) {
        is(what, so ? 1 : 0, 1);
    }

    void end() {
        System.out.println(test + ": " + calls + " answers, " + wrong + " not as due");
        if (wrong != 0) {
            System.exit(1);
        }
    }

    /** Types a text anew. */
    static void type(CrowMiles x, String text) {
        x.clear();
        for (int i = 0; i < text.length(); i++) {
            x.type(text.charAt(i));
        }
    }

    /** Types a text anew and reads it. */
    static int read(CrowMiles x, String text) {
        type(x, text);
        return x.read();
    }

    /** A new object with a country told by a text. */
    static CrowMiles told(String text) {
        CrowMiles x = new CrowMiles();
        if (read(x, text) < 0) {
            throw new IllegalStateException("the test's own text is at fault: " + text);
        }
        return x;
    }
}
