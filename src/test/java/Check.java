/** Counts answers that are not as due, and ends a test. */
final class Check {
    private int asked;
    private int wrong;

    void due(String call, long got, long want) {
        asked++;
        if (got != want) {
            wrong++;
            System.out.println(call + " answered " + got + ", due is " + want);
        }
    }

    void holds(String what, boolean is) {
        due(what, is ? 1 : 0, 1);
    }

    void end() {
        System.out.println(asked + " asked, " + wrong + " wrong");
        if (asked == 0 || wrong != 0) {
            System.exit(1);
        }
    }

    /** Feeds a text, a byte for each of its signs, and has it read. */
    static int read(FourYearsForAStrip x, String text) {
        for (int i = 0; i < text.length(); i++) {
            x.feed(text.charAt(i));
        }
        return x.text();
    }

    /** A new object with people of these kinds and numbers (two by two), all waiting. */
    static FourYearsForAStrip with(int... kindsAndNumbers) {
        FourYearsForAStrip x = new FourYearsForAStrip();
        for (int i = 0; i + 1 < kindsAndNumbers.length; i += 2) {
            x.tenant(kindsAndNumbers[i], kindsAndNumbers[i + 1]);
        }
        return x;
    }

    /** A new object whose rule is this text, with people as of with(). */
    static FourYearsForAStrip ruled(String text, int... kindsAndNumbers) {
        FourYearsForAStrip x = with(kindsAndNumbers);
        x.force(read(x, text));
        return x;
    }
}
