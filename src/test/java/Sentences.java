import java.util.function.Supplier;
import java.util.function.ToLongFunction;

/**
 * Tests by the document's own words: those that a test is of are looked up in the document, so that none of them is
 * made up, and each must have answers of its own.
 */
final class Sentences {
    /** A call with a number that is in question. */
    interface Asked {
        long with(FourYearsForAStrip x, int v);
    }

    private final Check check = new Check();
    private final Document document = new Document();
    private String words = "";
    private boolean isAsked = true;

    /** What is asked from here on is a test of these words of that promise (0: of the terms). */
    void of(int promise, String sentence) {
        check.holds("has answers of its own: " + words, isAsked);
        check.holds("stands in promise " + promise + ": " + sentence, document.section(promise).contains(sentence));
        words = sentence;
        isAsked = false;
    }

    void due(String call, long got, long want) {
        isAsked = true;
        check.due(words + " | " + call, got, want);
    }

    void holds(String what, boolean is) {
        due(what, is ? 1 : 0, 1);
    }

    /** The call is refused, and a garden that was asked is then as a like one that was not. */
    void refused(String call, Supplier<FourYearsForAStrip> garden, ToLongFunction<FourYearsForAStrip> asked, long want) {
        FourYearsForAStrip x = garden.get();
        due(call, asked.applyAsLong(x), want);
        holds(call + " changes nothing", Gardens.seen(x).equals(Gardens.seen(garden.get())));
    }

    /** Numbers of least .. most are taken; others, as near and as far as can be, are refused and change nothing. */
    void within(String call, Supplier<FourYearsForAStrip> garden, int least, int most, Asked asked, long refusal) {
        for (int v = least; v <= most; v++) {
            holds(call + " of " + v + " is taken", asked.with(garden.get(), v) != refusal);
        }
        for (int v : outside(least, most)) {
            refused(call + " of " + v, garden, x -> asked.with(x, v), refusal);
        }
    }

    /** Also those that a byte, a short or a sign cut off would bring back within. */
    static int[] outside(int least, int most) {
        return new int[] {least - 1, least - 256, least - 65536, Integer.MIN_VALUE + least, Integer.MIN_VALUE + 1,
            Integer.MIN_VALUE, most + 1, most + 256, most + 65536, Integer.MAX_VALUE - 1, Integer.MAX_VALUE};
    }

    void end() {
        check.holds("has answers of its own: " + words, isAsked);
        check.end();
    }
}
