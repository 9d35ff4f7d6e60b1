import java.util.Random;

/** Long runs of calls by chance (with fixed seeds): the program answers each as the model does, and throws nothing. */
public final class ModelTest {
    /** An object answers 512 calls; the last step of a run may take three. */
    private static final int RUNS = 700, CALLS = 510;
    private static final int[] ODD = {-1, -2, 5, 6, 7, 8, 9, 10, 29, 30, 31, 40, 41, 99, 100, 255, 256, 594, 595, 998,
        999, 1000, Integer.MAX_VALUE, Integer.MAX_VALUE - 1, Integer.MIN_VALUE, Integer.MIN_VALUE + 1};
    private static final String[] PIECES = {"(", ")", ";", "+", "-", "*", "<", "=", "digs", "weeds", "stays", "or",
        "and", "not", "number", "year", "level", "held", "strip", "warned", "7", "40", "1234", "12345", "x", "#", " ",
        "\n"};

    private final Random random;
    private final FourYearsForAStrip x = new FourYearsForAStrip();
    private final Model model = new Model();
    private final int oddness;
    private int calls;
    private String said = "";

    private ModelTest(long seed) {
        random = new Random(seed);
        oddness = seed % 3 == 0 ? 3 : 40;
    }

    public static void main(String[] args) {
        Check check = new Check();
        for (int run = 0; run < RUNS; run++) {
            new ModelTest(run).go(check, run);
        }
        check.end();
    }

    private void go(Check check, int run) {
        while (calls < CALLS) {
            if (!call(check, run)) {
                return;
            }
        }
    }

    /** A number within 0 .. most, or now and then an odd one. */
    private int upTo(int most) {
        return random.nextInt(oddness) == 0 ? ODD[random.nextInt(ODD.length)] : random.nextInt(most + 1);
    }

    /** How many years: few, as a rule, for the model is slow. */
    private int span() {
        return random.nextInt(4) == 0 ? upTo(31) : upTo(6);
    }

    private boolean same(Check check, int run, long got, long want) {
        calls++;
        check.due("run " + run + ", call " + calls + ": " + said, got, want);
        return got == want;
    }

    private boolean call(Check check, int run) {
        int which = random.nextInt(100);
        if (which < 3 && calls + 170 < CALLS) {
            return text(check, run);
        }
        int a = 0;
        int b = 0;
        int c = 0;
        if (which < 16) {
            a = upTo(8);
            b = upTo(7);
            c = upTo(a == 0 || a == 6 || a == 8 ? random.nextBoolean() ? 999 : 30 : a == 1 || a == 3 ? 99 : a == 4 ? 1 : 9);
            said = "set(" + a + ", " + b + ", " + c + ")";
            return same(check, run, x.set(a, b, c), model.set(a, b, c));
        }
        if (which < 21) {
            a = upTo(5);
            b = upTo(9);
            said = "tenant(" + a + ", " + b + ")";
            return same(check, run, x.tenant(a, b), model.tenant(a, b));
        }
        if (which < 30) {
            a = upTo(7);
            b = upTo(13);
            said = "told(" + a + ", " + b + ")";
            return same(check, run, x.told(a, b), model.told(a, b));
        }
        if (which < 36) {
            a = upTo(7);
            b = upTo(5);
            said = "give(" + a + ", " + b + ")";
            return same(check, run, x.give(a, b), model.give(a, b));
        }
        return which < 60 ? years(check, run) : which < 80 ? thoughts(check, run) : host(check, run);
    }

    private boolean years(Check check, int run) {
        int a = 0;
        int b = 0;
        switch (random.nextInt(9)) {
            case 0:
                a = random.nextInt(4) == 0 ? upTo(7) : -1;
                said = "strikeOff(" + a + ")";
                return same(check, run, x.strikeOff(a), model.strikeOff(a));
            case 1:
                a = upTo(7);
                said = "list(" + a + ")";
                return same(check, run, x.list(a), model.list(a));
            case 2:
                a = upTo(5);
                said = "force(" + a + ")";
                return same(check, run, x.force(a), model.force(a));
            case 3:
                said = "year()";
                return same(check, run, x.year(), model.year());
            case 4:
                a = upTo(7);
                said = "takes(" + a + ")";
                return same(check, run, x.takes(a), model.takes(a));
            case 5:
                a = upTo(7);
                said = "count(" + a + ")";
                return same(check, run, x.count(a), model.count(a));
            case 6:
                boolean image = random.nextBoolean();
                said = image ? "image()" : "back()";
                return random.nextInt(3) != 0 || same(check, run, image ? x.image() : x.back(),
                    image ? model.image() : model.back());
            case 7:
                a = upTo(5);
                b = upTo(256);
                said = "feed(" + b + ")";
                return a != 0 || same(check, run, x.feed(b), model.feed(b));
            default:
                a = span();
                b = new int[] {upTo(4), 10 + upTo(5), 20 + upTo(5), 30 + upTo(7)}[random.nextInt(4)];
                said = "run(" + a + ", " + b + ")";
                return same(check, run, x.run(a, b), model.run(a, b));
        }
    }

    private boolean thoughts(Check check, int run) {
        int a = span();
        int b = upTo(1);
        int c = upTo(5);
        switch (random.nextInt(9)) {
            case 0:
                said = "strict(" + a + ", " + b + ")";
                return random.nextInt(4) != 0 || same(check, run, x.strict(a, b), model.strict(a, b));
            case 1:
                said = "outOfTurn(" + c + ", " + a + ", " + b + ")";
                return same(check, run, x.outOfTurn(c, a, b), model.outOfTurn(c, a, b));
            case 2:
                said = "drain(" + a + ", " + b + ")";
                return same(check, run, x.drain(a, b), model.drain(a, b));
            case 3:
                said = "strike(" + a + ", " + b + ")";
                return same(check, run, x.strike(a, b), model.strike(a, b));
            case 4:
                said = "change(" + a + ", " + b + ")";
                return same(check, run, x.change(a, b), model.change(a, b));
            case 5:
                int seed = random.nextInt();
                said = "drawn(" + seed + ", " + a + ")";
                return same(check, run, x.drawn(seed, a), model.drawn(seed, a));
            case 6:
                int first = random.nextInt();
                int m = 1 + upTo(19);
                int k = random.nextBoolean() ? upTo(594) : Math.min(594, model.drawn(first, 10));
                said = "chance(" + first + ", " + m + ", " + k + ", " + b + ")";
                return random.nextInt(4) != 0 || same(check, run, x.chance(first, m, k, b), model.chance(first, m, k, b));
            default:
                int sheet = upTo(3);
                int what = upTo(5);
                return told(check, run, sheet, c, what, a);
        }
    }

    /** A film, changed a little now and then, and read back. */
    private boolean told(Check check, int run, int sheet, int strip, int what, int n) {
        if (random.nextInt(3) != 0) {
            said = "film(" + sheet + ", " + strip + ", " + n + ")";
            if (!same(check, run, x.film(sheet, strip, n), model.film(sheet, strip, n))) {
                return false;
            }
        }
        if (random.nextInt(4) == 0) {
            int i = upTo(5);
            int v = upTo(99);
            said = "cell(" + sheet + ", " + i + ", " + v + ")";
            if (!same(check, run, x.cell(sheet, i, v), model.cell(sheet, i, v))) {
                return false;
            }
        }
        said = "tells(" + sheet + ", " + strip + ", " + what + ")";
        return same(check, run, x.tells(sheet, strip, what), model.tells(sheet, strip, what));
    }

    private boolean host(Check check, int run) {
        int a = upTo(3);
        int b = upTo(2);
        int c = upTo(random.nextBoolean() ? 40 : 12);
        int d = upTo(9);
        int e = upTo(8);
        switch (random.nextInt(6)) {
            case 0:
                b = random.nextInt(8) == 0 ? -1 : random.nextInt(3) == 0 ? b : 0;
                said = "sheet(" + a + ", " + b + ", " + c + ")";
                return same(check, run, x.sheet(a, b, c), model.sheet(a, b, c));
            case 1:
            case 2:
                d = random.nextInt(6) == 0 ? random.nextInt() : d;
                said = "cell(" + a + ", " + c + ", " + d + ")";
                return same(check, run, x.cell(a, c, d), model.cell(a, c, d));
            case 3:
                int other = upTo(3);
                said = "copy(" + a + ", " + c + ", " + other + ", " + d + ", " + e + ")";
                return same(check, run, x.copy(a, c, other, d, e), model.copy(a, c, other, d, e));
            case 4:
                said = "tenants(" + a + ", " + b + ", " + c + ", " + e + ")";
                return same(check, run, x.tenants(a, b, c, e), model.tenants(a, b, c, e));
            default:
                c = upTo(7);
                d = upTo(5);
                said = "taken(" + c + ", " + d + ")";
                return same(check, run, x.taken(c, d), model.taken(c, d));
        }
    }

    private boolean text(Check check, int run) {
        String text = sentence();
        for (int i = 0; i < text.length(); i++) {
            calls++;
            check.due("feed", x.feed(text.charAt(i)), model.feed(text.charAt(i)));
        }
        said = "text() of " + text;
        if (!same(check, run, x.text(), model.text())) {
            return false;
        }
        int rule = model.count(5) - 1;
        said = "force(" + rule + ")";
        return same(check, run, x.force(rule), model.force(rule));
    }

    private String sentence() {
        StringBuilder s = new StringBuilder();
        String[] keys = {"digs", "weeds", "stays"};
        for (int i = 0; i < 3; i++) {
            s.append(keys[i]).append(' ');
            expression(s, 1 + random.nextInt(5));
            s.append(';');
        }
        if (random.nextInt(3) == 0) {
            spoil(s);
        }
        s.setLength(Math.min(s.length(), 160));
        return s.toString();
    }

    private void spoil(StringBuilder s) {
        int at = random.nextInt(s.length() + 1);
        switch (random.nextInt(4)) {
            case 0: s.setLength(at); break;
            case 1: s.insert(at, PIECES[random.nextInt(PIECES.length)]); break;
            case 2: s.delete(at, Math.min(s.length(), at + 1 + random.nextInt(3))); break;
            default: s.insert(at, (char) random.nextInt(256)); break;
        }
    }

    private void expression(StringBuilder s, int size) {
        if (size <= 1) {
            s.append(random.nextInt(3) == 0 ? PIECES[14 + random.nextInt(6)] : "" + random.nextInt(40));
            return;
        }
        switch (random.nextInt(8)) {
            case 0:
                s.append(random.nextBoolean() ? "not " : "-");
                expression(s, size - 1);
                break;
            case 1:
            case 2:
                s.append('(');
                expression(s, size - 1);
                s.append(')');
                break;
            default:
                expression(s, size / 2);
                s.append(' ').append(PIECES[new int[] {3, 4, 5, 6, 7, 11, 12, 3, 4}[random.nextInt(9)]]).append(' ');
                expression(s, size - size / 2);
                break;
        }
    }
}
