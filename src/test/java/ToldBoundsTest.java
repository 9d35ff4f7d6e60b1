/** The boundary cases that promises 19 to 25, and the terms of told and drawn years and of images, name. */
public final class ToldBoundsTest {
    private static final Sentences S = new Sentences();
    private static final long NO = -4611686018427387904L;
    private static final int MAX = Integer.MAX_VALUE, MIN = Integer.MIN_VALUE;

    public static void main(String[] args) {
        toldTerm();
        toldKindsAndNumbers();
        toldTexts();
        toldLevels();
        drawnTerm();
        seedsTerm();
        imageTerm();
        whatIsFound();
        tells();
        tellsRefuses();
        film();
        drawn();
        chance();
        image();
        back();
        count();
        S.end();
    }

    /** Nothing grows and nobody digs: a sheet tells a strip by the number that it is. */
    private static FourYearsForAStrip still(int... people) {
        return Check.ruled("digs 0;weeds 0;stays 99;", people);
    }

    // ---- terms

    private static void toldTerm() {
        S.of(0, "TOLD: a SHEET tells how well a STRIP is TENDED behind 1, 2, .. YEARS (30 at most): the first number"
            + " (from 0) that is otherwise; NONE");
        FourYearsForAStrip x = Check.ruled("digs 0;weeds 1;stays 99;");
        int[] years = new int[30];
        for (int i = 0; i < 30; i++) {
            years[i] = 49 - i;
        }
        Gardens.write(x, 0, 0, years);
        S.due("30 as they are", x.tells(0, 5, 0), -1);
        for (int i : new int[] {29, 28, 1, 0}) {
            x.cell(0, i, 99);
            S.due("otherwise from " + i, x.tells(0, 5, 0), i);
        }
        x.sheet(0, 0, 31);
        S.due("31 are too many", x.tells(0, 5, 0), -2);
        x.sheet(0, 0, 0);
        S.due("none is otherwise of none", x.tells(0, 5, 0), -1);
    }

    private static void toldKindsAndNumbers() {
        S.of(0, "of who has it now KINDS (bits 0 .. 5), NUMBERS (bits 0 .. 9) by which all would be so");
        FourYearsForAStrip x = Check.ruled("digs 40;weeds 0;stays 99;", 0, 0);
        x.give(0, 5);
        x.set(3, 5, 0);
        int[] told = {40, 80, 0, 80, 0, 37};
        int[] kinds = {1, 2 + 8, 4 + 16, 2 + 8, 4 + 16, 32};
        for (int kind = 0; kind < 6; kind++) {
            Gardens.write(x, 0, 2, told[kind]);
            S.due("kinds by " + told[kind], x.tells(0, 5, 4), kinds[kind]);
        }
        Gardens.write(x, 0, 2, 41);
        S.due("no kind", x.tells(0, 5, 4), 0);
        FourYearsForAStrip y = Check.ruled("digs number*10;weeds 0;stays 99;", 0, 4);
        y.give(0, 5);
        y.set(3, 5, 0);
        for (int number = 0; number < 10; number++) {
            Gardens.write(y, 0, 2, number * 10);
            S.due("number " + number, y.tells(0, 5, 5), 1 << number);
        }
        Gardens.write(y, 0, 2, 99);
        S.due("no number", y.tells(0, 5, 5), 0);
        Gardens.write(y, 0, 2);
        S.due("all kinds", y.tells(0, 5, 4), 63);
        S.due("all numbers", y.tells(0, 5, 5), 1023);
    }

    private static void toldTexts() {
        S.of(0, "TEXTS (bits), were they THE RULE");
        FourYearsForAStrip x = Gardens.untouched();
        Gardens.write(x, 0, 2);
        S.due("one text", x.tells(0, 0, 1), 1);
        for (int text = 1; text < 6; text++) {
            Check.read(x, "digs 0;weeds " + text + ";stays 1;");
        }
        S.due("six texts", x.tells(0, 0, 1), 63);
        for (int text = 1; text < 6; text++) {
            Gardens.write(x, 0, 2, 50 - text);
            S.due("text " + text, x.tells(0, 0, 1), 1 << text);
        }
        Gardens.write(x, 0, 2, 38);
        S.due("text 0", x.tells(0, 0, 1), 1);
        Gardens.write(x, 0, 2, 50);
        S.due("no text", x.tells(0, 0, 1), 0);
        S.due("the rule is as it was", x.count(7), 0);
    }

    private static void toldLevels() {
        S.of(0, "how well it was TENDED ahead (of 0 .. 99: how many, the least), likewise.");
        FourYearsForAStrip x = still();
        for (int level : new int[] {0, 1, 98, 99}) {
            Gardens.write(x, 0, 2, level);
            S.due("how many by " + level, x.tells(0, 0, 2), 1);
            S.due("the least by " + level, x.tells(0, 0, 3), level);
        }
        for (int level : new int[] {-1, 100, 256, MIN, MAX}) {
            Gardens.write(x, 0, 2, level);
            S.due("none by " + level, x.tells(0, 0, 2), 0);
            S.due("no least by " + level, x.tells(0, 0, 3), -1);
        }
        Gardens.write(x, 0, 2);
        S.due("all", x.tells(0, 0, 2), 100);
        S.due("of all the least", x.tells(0, 0, 3), 0);
        FourYearsForAStrip y = Gardens.untouched();
        Gardens.write(y, 0, 2, 0);
        S.due("0 .. 12 by 0", y.tells(0, 0, 2), 13);
        Gardens.write(y, 0, 2, 87, 75);
        S.due("99 by 87, 75", y.tells(0, 0, 3), 99);
        Gardens.write(y, 0, 2, 88);
        S.due("none by 88", y.tells(0, 0, 2), 0);
    }

    /** The draws of a year, told in numbers of 64 bits. */
    private static long[] draws(long seed, int n) {
        long[] all = new long[6 * n];
        long z = seed;
        for (int i = 0; i < all.length; i++) {
            z = (z * 1103515245L + 12345L) & 0xFFFFFFFFL;
            all[i] = (z / 512) % 20;
        }
        return all;
    }

    private static long still(long seed, int n, long level) {
        long[] draws = draws(seed, n);
        long together = 0;
        for (int strip = 0; strip < 6; strip++) {
            long left = level;
            for (int i = strip; i < draws.length; i += 6) {
                left = Math.max(0, left - draws[i]);
            }
            together += left;
        }
        return together;
    }

    private static void drawnTerm() {
        S.of(0, "DRAWN by a SEED: ahead of each of n YEARS STRIPS, in order, are (z >>> 9) % 20 less TENDED (0 at least),"
            + " z being z * 1103515245 + 12345 (an int; SEED at first) anew for each: TENDED WELL.");
        FourYearsForAStrip x = still();
        for (int seed : new int[] {0, 1, -1, MAX, MIN, MAX - 1, MIN + 1, 1103515245, -12345}) {
            for (int n : new int[] {0, 1, 2, 5, 30}) {
                S.due("drawn(" + seed + ", " + n + ")", x.drawn(seed, n), still(seed, n, 50));
            }
        }
        for (int level : new int[] {0, 1, 10, 18, 19, 99}) {
            for (int strip = 0; strip < 6; strip++) {
                x.set(3, strip, level);
            }
            S.due("0 at least, of " + level, x.drawn(-7, 1), still(-7, 1, level));
        }
        FourYearsForAStrip y = Check.ruled("digs level;weeds 0;stays 99;", 0, 0);
        y.give(0, 0);
        for (int strip = 0; strip < 6; strip++) {
            y.set(3, strip, 20);
        }
        long first = 20 - draws(5, 1)[0];
        S.due("ahead of the year", y.drawn(5, 1), still(5, 1, 20) + first);
    }

    private static long hits(int seed, int m, long k, long level) {
        long hits = 0;
        for (int i = 0; i < m; i++) {
            hits += still(seed + i, 10, level) >= k ? 1 : 0;
        }
        return hits;
    }

    private static void seedsTerm() {
        S.of(0, "IN m seeds (1 .. 20), SEED and each 1 more (an int), 10 YEARS: of these those by which that is k"
            + " (0 .. 594) or more.");
        FourYearsForAStrip x = still();
        for (int strip = 0; strip < 6; strip++) {
            x.set(3, strip, 99);
        }
        // seeds that wrap: the most of ints, and the least behind it
        for (int seed : new int[] {MAX, MAX - 9, MIN, -10, 0}) {
            for (int m : new int[] {1, 2, 19, 20}) {
                long k = still(seed + m - 1, 10, 99);
                ratio("chance(" + seed + ", " + m + ", " + k + ")", x.chance(seed, m, (int) k, 0),
                    x.chance(seed, m, (int) k, 1), hits(seed, m, k, 99), m);
            }
        }
        int well = x.drawn(3, 10);
        S.due("k", x.chance(3, 1, well, 0), 1);
        S.due("k less 1", x.chance(3, 1, well - 1, 0), 1);
        S.due("k and 1", x.chance(3, 1, well + 1, 0), 0);
        S.due("10 years, not 9", x.chance(3, 1, x.drawn(3, 9), 0), 0);
        S.due("0 or more are all", x.chance(3, 20, 0, 0), 1);
        FourYearsForAStrip most = Check.ruled("digs 99;weeds 0;stays 99;", 5, 0, 5, 0, 5, 0, 5, 0, 5, 0, 5, 0);
        for (int one = 0; one < 6; one++) {
            most.give(one, one);
        }
        S.due("594", most.chance(3, 20, 594, 0), 1);
        S.due("of as many", most.chance(3, 20, 594, 1), 1);
    }

    private static void ratio(String call, long above, long below, long hits, long m) {
        long d = m;
        while (hits % d != 0 || m % d != 0) {
            d--;
        }
        S.due(call + " above", above, hits / d);
        S.due(call + " below", below, m / d);
    }

    private static void imageTerm() {
        S.of(0, "AN IMAGE keeps YEAR, LIMIT, LETTERS, how well STRIPS are TENDED, which are WET, NUMBERS, who has which"
            + " STRIP, HELD, WARNED, who WAITS how long, who is GONE, THE RULE (PEOPLE that came since go).");
        // each is changed by itself, and is as it was behind back()
        String was = kept(imaged());
        for (int what = 0; what < 9; what++) {
            FourYearsForAStrip x = imaged();
            int of = what == 8 ? 2 : 0;
            x.set(what, of, x.told(of, what) == 1 ? 0 : 1);
            backAs("set " + what, x, was);
        }
        for (int strip = 0; strip < 6; strip++) {
            FourYearsForAStrip x = imaged();
            x.set(3, strip, 0);
            x.set(4, strip, 1);
            backAs("strip " + strip, x, was);
        }
        FourYearsForAStrip struck = imaged();
        struck.strikeOff(0);
        struck.strikeOff(3);
        backAs("who was struck off", struck, was);
        FourYearsForAStrip given = imaged();
        given.give(2, 5);
        given.set(6, 2, 9);
        backAs("who waits how long", given, was);
        FourYearsForAStrip ruled = imaged();
        ruled.force(0);
        backAs("the rule", ruled, was);
        FourYearsForAStrip since = imaged();
        since.tenant(0, 0);
        since.tenant(0, 0);
        since.give(6, 5);
        backAs("who came since", since, was);
        S.due("none such", since.told(6, 5), -2);
        FourYearsForAStrip years = imaged();
        for (int i = 0; i < 9; i++) {
            years.year();
        }
        backAs("years", years, was);
    }

    private static FourYearsForAStrip imaged() {
        FourYearsForAStrip x = Gardens.some();
        x.image();
        return x;
    }

    private static void backAs(String what, FourYearsForAStrip x, String was) {
        S.holds("otherwise: " + what, !kept(x).equals(was));
        S.due("back: " + what, x.back(), 6);
        S.holds("as it was: " + what, kept(x).equals(was));
    }

    private static String kept(FourYearsForAStrip x) {
        StringBuilder all = new StringBuilder();
        for (int what : new int[] {0, 1, 2, 3, 4, 7}) {
            all.append(x.count(what)).append(' ');
        }
        all.append(x.told(0, 1)).append(' ').append(x.told(0, 2)).append(' ');
        for (int of = 0; of < 8; of++) {
            for (int what = 3; what < 14; what++) {
                all.append(x.told(of, what)).append(' ');
            }
        }
        return all.toString();
    }

    /** Where none is found each answers -1 and, as what 1, how well all is tended as now. */
    private static void whatIsFound() {
        S.of(0, "what 0 what is found (NONE), 1 TENDED WELL then (as now, if none).");
        FourYearsForAStrip x = Gardens.untouched();
        int now = x.run(3, 4);
        S.due("drain, found", x.drain(3, 0), -1);
        S.due("drain, well", x.drain(3, 1), now);
        S.due("strike, found", x.strike(3, 0), -1);
        S.due("strike, well", x.strike(3, 1), now);
        S.due("change, found", x.change(3, 0), -1);
        S.due("change, well", x.change(3, 1), now);
        S.due("out of turn, found", x.outOfTurn(0, 3, 0), -1);
        S.due("out of turn, well", x.outOfTurn(0, 3, 1), now);
    }

    // ---- calls

    private static void tells() {
        S.of(19, "TOLD of a STRIP: the first number that is otherwise (what 0; NONE), TEXTS (1), how well it was TENDED:"
            + " how many (2), the least (3; NONE), KINDS (4), NUMBERS (5; 0, if nobody has it).");
        FourYearsForAStrip x = still(0, 0, 0, 0);
        x.give(0, 0);
        x.give(1, 1);
        x.strikeOff(1);
        Gardens.write(x, 0, 2, 50);
        int[] held = {-1, 2, 1, 50, 1 + 2 + 4 + 8 + 16 + 32, 1023};
        int[] free = {-1, 2, 1, 50, 0, 0};
        for (int what = 0; what < 6; what++) {
            S.due("one has it, " + what, x.tells(0, 0, what), held[what]);
            S.due("nobody has it, " + what, x.tells(0, 5, what), free[what]);
            S.due("one who is gone had it, " + what, x.tells(0, 1, what), free[what]);
        }
        Gardens.write(x, 0, 2, 100);
        int[] none = {0, 0, 0, -1, 0, 0};
        for (int what = 0; what < 6; what++) {
            S.due("nothing is so, " + what, x.tells(0, 0, what), none[what]);
        }
        x.sheet(0, 2, 0);
        int[] empty = {-1, 3, 100, 0, 0, 0};
        for (int what = 0; what < 6; what++) {
            S.due("none told, nobody has it, " + what, x.tells(0, 5, what), empty[what]);
        }
    }

    private static void tellsRefuses() {
        S.of(19, "BAD: SHEET, no such STRIP, what; -11; BAD: it tells more than 30.");
        S.within("tells(sheet, 0, 0)", Gardens::some, 0, 1, (x, v) -> x.tells(v, 0, 0), -2);
        S.within("tells(0, strip, 0)", Gardens::some, 0, 5, (x, v) -> x.tells(0, v, 0), -2);
        S.within("tells(0, 0, what)", Gardens::some, 0, 5, (x, v) -> x.tells(0, 0, v), -2);
        for (int what = 0; what < 6; what++) {
            int w = what;
            S.refused("a missing sheet, " + w, Gardens::some, x -> x.tells(3, 0, w), -11);
            S.refused("31 of them, " + w, Gardens::some, x -> x.tells(2, 0, w), -2);
            S.refused("31 of them, strip 5, " + w, Gardens::some, x -> x.tells(2, 5, w), -2);
            S.refused("no sheet 4, " + w, Gardens::some, x -> x.tells(4, 0, w), -2);
        }
        S.refused("BAD ahead of -11: strip", Gardens::some, x -> x.tells(3, 6, 0), -2);
        S.refused("BAD ahead of -11: what", Gardens::some, x -> x.tells(3, 0, 6), -2);
        FourYearsForAStrip x = Gardens.some();
        x.sheet(2, 2, 40);
        S.due("40 of them", x.tells(2, 0, 0), -2);
        x.sheet(2, 2, 30);
        S.due("30 of them", x.tells(2, 0, 0), 0);
    }

    private static void film() {
        S.of(20, "A SHEET truly becomes how well a STRIP is TENDED behind 1, .., n YEARS (0 .. 30; bytes): n. BAD.");
        S.within("film(sheet, 0, 3)", Gardens::some, 0, 3, (x, v) -> x.film(v, 0, 3), -2);
        S.within("film(0, strip, 3)", Gardens::some, 0, 5, (x, v) -> x.film(0, v, 3), -2);
        S.within("film(3, 0, n)", Gardens::some, 0, 30, (x, v) -> x.film(3, 0, v), -2);
        for (int n : new int[] {0, 1, 29, 30}) {
            FourYearsForAStrip x = Gardens.some();
            S.due("film of " + n, x.film(3, 1, n), n);
            S.due("is of bytes", x.tenants(3, 0, 0, 0), 0);
            S.due("is so", x.tells(3, 1, 0), -1);
            S.due("so many", x.copy(3, n, 3, n, 0), 0);
            S.due("no more", x.copy(3, n + 1, 3, n + 1, 0), -12);
            S.due("the year is as it was", x.count(4), 12);
        }
        FourYearsForAStrip x = still();
        x.set(3, 5, 99);
        x.sheet(3, 2, 40);
        x.film(3, 5, 30);
        for (int i = 0; i < 30; i++) {
            S.due("item " + i, item(x, 3, i), 99);
        }
        S.due("30 of 40", x.cell(3, 30, 0), -12);
    }

    /** By what level of strip 0, where nothing grows, an item of bytes would be so. */
    private static int item(FourYearsForAStrip x, int sheet, int i) {
        x.sheet(0, 0, 1);
        x.copy(sheet, i, 0, 0, 1);
        return x.tells(0, 0, 3);
    }

    private static void drawn() {
        S.of(21, "DRAWN. BAD: n (0 .. 30).");
        S.within("drawn(7, n)", Gardens::some, 0, 30, (x, v) -> x.drawn(7, v), -2);
        FourYearsForAStrip x = Gardens.some();
        S.due("of 0 as now", x.drawn(7, 0), x.run(0, 4));
        for (int seed : new int[] {MIN, MIN + 1, -1, 0, 1, MAX - 1, MAX}) {
            S.holds("any seed: " + seed, x.drawn(seed, 30) >= 0);
        }
        S.refused("in thought", Gardens::some, g -> g.drawn(7, 30), Gardens.some().drawn(7, 30));
    }

    private static void chance() {
        S.of(22, "IN m seeds: part 0 above, 1 below the line, in lowest terms. NO: m, k, part.");
        S.within("chance(7, m, 90, 0)", Gardens::some, 1, 20, (x, v) -> x.chance(7, v, 90, 0), NO);
        S.within("chance(7, 1, k, 0)", Gardens::some, 0, 594, (x, v) -> x.chance(7, 1, v, 0), NO);
        S.within("chance(7, 1, 90, part)", Gardens::some, 0, 1, (x, v) -> x.chance(7, 1, 90, v), NO);
        FourYearsForAStrip x = Gardens.untouched();
        for (int m : new int[] {1, 2, 10, 20}) {
            S.due("none of " + m + ", above", x.chance(7, m, 594, 0), 0);
            S.due("none of " + m + ", below", x.chance(7, m, 594, 1), 1);
            S.due("all of " + m + ", above", x.chance(7, m, 0, 0), 1);
            S.due("all of " + m + ", below", x.chance(7, m, 0, 1), 1);
        }
        halves();
        S.refused("in thought", Gardens::some, g -> g.chance(7, 20, 90, 0), Gardens.some().chance(7, 20, 90, 0));
    }

    /** Every ratio of 20 seeds that a k brings about is in lowest terms. */
    private static void halves() {
        FourYearsForAStrip x = still();
        for (int strip = 0; strip < 6; strip++) {
            x.set(3, strip, 99);
        }
        for (int k = 0; k <= 200; k += 2) {
            ratio("chance(7, 20, " + k + ")", x.chance(7, 20, k, 0), x.chance(7, 20, k, 1), hits(7, 20, k, 99), 20);
        }
    }

    private static void image() {
        S.of(23, "AN IMAGE is kept: how many of PEOPLE.");
        S.due("none", Gardens.untouched().image(), 0);
        S.due("six, one of them gone", Gardens.some().image(), 6);
        S.due("eight", Gardens.crowded().image(), 8);
        FourYearsForAStrip x = Gardens.untouched();
        x.image();
        x.tenant(0, 0);
        S.due("a later one", x.image(), 1);
        x.tenant(0, 0);
        S.due("is the one that is kept", x.back(), 1);
        FourYearsForAStrip late = Gardens.late();
        late.image();
        late.set(0, 0, 0);
        late.back();
        S.due("of the year 999", late.count(4), 999);
    }

    private static void back() {
        S.of(24, "All that it keeps is as in THE IMAGE: how many of PEOPLE. STATE: there is none.");
        S.refused("no image", Gardens::untouched, FourYearsForAStrip::back, -3);
        FourYearsForAStrip x = Check.with(0, 0, 0, 0);
        x.set(1, 0, 77);
        S.due("no image", x.back(), -3);
        S.due("all stays", x.told(0, 1), 77);
        FourYearsForAStrip none = Gardens.untouched();
        none.image();
        for (int i = 0; i < 8; i++) {
            none.tenant(1, 1);
        }
        S.due("none of eight", none.back(), 0);
        S.due("no people", none.count(0), 0);
        S.due("room for eight again", none.tenant(2, 2), 0);
        S.due("of a new kind", none.told(0, 9), 2);
        S.due("again", none.back(), 0);
        FourYearsForAStrip eight = Gardens.crowded();
        eight.image();
        eight.strikeOff(7);
        S.due("eight", eight.back(), 8);
        S.due("the last waits again", eight.told(7, 10), -1);
        FourYearsForAStrip rest = Gardens.some();
        rest.image();
        Check.read(rest, "");
        rest.sheet(0, -1, 0);
        Check.read(rest, "digs 1;weeds 1;stays 1;");
        rest.feed('d');
        rest.back();
        S.due("texts aren't kept", rest.count(5), 3);
        S.due("nor is the tape", rest.count(6), 1);
        S.due("nor are sheets", rest.cell(0, 0, 0), -11);
    }

    private static void count() {
        S.of(25, "How many: 0 PEOPLE, 1 that have a STRIP, 2 that WAIT, 3 that are GONE, 4 YEAR, 5 TEXTS, 6 bytes of THE"
            + " TAPE, 7 THE RULE. BAD.");
        S.within("count(what)", Gardens::some, 0, 7, (x, v) -> x.count(v), -2);
        int[] first = {0, 0, 0, 0, 0, 1, 0, 0};
        int[] some = {6, 2, 3, 1, 12, 2, 7, 1};
        int[] crowded = {8, 2, 5, 1, 12, 2, 7, 1};
        int[] late = {6, 2, 3, 1, 999, 2, 7, 1};
        for (int what = 0; what < 8; what++) {
            S.due("at first, " + what, Gardens.untouched().count(what), first[what]);
            S.due("of some, " + what, Gardens.some().count(what), some[what]);
            S.due("of eight, " + what, Gardens.crowded().count(what), crowded[what]);
            S.due("late, " + what, Gardens.late().count(what), late[what]);
        }
    }
}
