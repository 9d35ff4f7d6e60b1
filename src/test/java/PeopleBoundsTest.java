/** The boundary cases that promises 1 to 7, and the terms of strips and people, name: a test for each sentence. */
public final class PeopleBoundsTest {
    private static final Sentences S = new Sentences();

    public static void main(String[] args) {
        ofTerms();
        ofKinds();
        newObject();
        set();
        setOfWhom();
        tenant();
        told();
        toldOfNone();
        give();
        giveIsRefused();
        strikeOff();
        list();
        S.end();
    }

    // ---- terms

    private static void ofTerms() {
        year();
        limit();
        letters();
        strips();
        people();
        kinds();
        number();
        noTwoTheSame();
        held();
        warned();
        waits();
        gone();
        constants();
        quotients();
        firstRefusal();
        unlike();
    }

    /** What told() tells of it is v wherever set() takes v. */
    private static void takesAll(int what, int of, int least, int most) {
        FourYearsForAStrip x = Gardens.some();
        int was = x.told(of, what);
        for (int v : new int[] {least, most, least + (most - least) / 2, most, least}) {
            S.due("set(" + what + ", " + of + ", " + v + ")", x.set(what, of, v), was);
            S.due("told(" + of + ", " + what + ")", x.told(of, what), v);
            was = v;
        }
        for (int v : Sentences.outside(least, most)) {
            S.refused("set(" + what + ", " + of + ", " + v + ")", Gardens::some, g -> g.set(what, of, v), -2);
        }
    }

    private static void year() {
        S.of(0, "999; 0 at first).");
        S.due("at first", Gardens.untouched().told(0, 0), 0);
        takesAll(0, 0, 0, 999);
    }

    private static void limit() {
        S.of(0, "LIMIT (0 .. 99; 30 at first).");
        S.due("at first", Gardens.untouched().told(0, 1), 30);
        takesAll(1, 0, 0, 99);
    }

    private static void letters() {
        S.of(0, "LETTERS (1 .. 9; 3 at first): so many, and one loses the strip.");
        S.due("at first", Gardens.untouched().told(0, 2), 3);
        takesAll(2, 0, 1, 9);
        for (int letters = 1; letters <= 9; letters++) {
            FourYearsForAStrip x = Check.with(0, 0);
            x.give(0, 0);
            x.set(1, 0, 99);
            x.set(2, 0, letters);
            for (int year = 1; year < letters; year++) {
                S.due("letter " + year + " of " + letters, x.year(), 0);
                S.due("has it still", x.told(0, 10), 0);
            }
            S.due("letter " + letters, x.year(), 1);
            S.due("has it no more", x.told(0, 10), -5);
        }
    }

    private static void strips() {
        S.of(0, "STRIPS 0 .. 5, each TENDED so well (0 .. 99; 50 at first), WET or not (1, 0; 0 at first).");
        for (int strip = 0; strip < 6; strip++) {
            S.due("tended at first", Gardens.untouched().told(strip, 3), 50);
            S.due("wet at first", Gardens.untouched().told(strip, 4), 0);
            takesAll(3, strip, 0, 99);
            takesAll(4, strip, 0, 1);
        }
        S.within("told(strip, 3)", Gardens::some, 0, 5, (x, v) -> x.told(v, 3), -2);
        S.within("told(strip, 4)", Gardens::some, 0, 5, (x, v) -> x.told(v, 4), -2);
    }

    private static void people() {
        S.of(0, "PEOPLE (8 at most, numbered from 0)");
        FourYearsForAStrip x = Gardens.untouched();
        for (int one = 0; one < 8; one++) {
            S.due("one comes", x.tenant(0, 0), one);
        }
        S.due("a ninth", x.tenant(0, 0), -4);
        S.due("how many", x.count(0), 8);
        S.due("the last", x.told(7, 10), -1);
        S.due("none behind", x.told(8, 10), -2);
    }

    private static void kinds() {
        S.of(0, "have a KIND: 0 TENANT, 1 KEEN under TENANT, 2 IDLE under TENANT, 3 PENSIONER under KEEN, 4 HEIR under"
            + " IDLE, 5 FENCER under TENANT");
        S.within("tenant(kind, 0)", Gardens::untouched, 0, 5, (x, v) -> x.tenant(v, 0), -2);
        int[] under = {-1, 0, 0, 1, 2, 0};
        for (int kind = 0; kind < 6; kind++) {
            FourYearsForAStrip x = Check.with(kind, 8);
            S.due("its kind", x.told(0, 9), kind);
            S.due("taken for its own kind", x.taken(0, kind), 8);
            if (under[kind] >= 0) {
                S.due("taken for the one above", x.taken(0, under[kind]), 8);
                S.due("but not the one above for it", Check.with(under[kind], 8).taken(0, kind), -13);
            }
        }
    }

    private static void number() {
        S.of(0, "a NUMBER (0 .. 9)");
        takesAll(5, 0, 0, 9);
        S.within("tenant(0, number)", Gardens::untouched, 0, 9, (x, v) -> x.tenant(0, v), -2);
        S.due("the least", Check.with(0, 0).told(0, 5), 0);
        S.due("the most", Check.with(0, 9).told(0, 5), 9);
    }

    private static void noTwoTheSame() {
        S.of(0, "each has a STRIP, no two the same");
        S.refused("give(2, 0)", Gardens::some, x -> x.give(2, 0), -4);
        FourYearsForAStrip x = Check.with(0, 0, 0, 0, 0, 0, 0, 0, 0, 0, 0, 0, 0, 0, 0, 0);
        x.year();
        for (int one = 0; one < 6; one++) {
            S.due("strip of " + one, x.told(one, 10), one);
        }
        S.due("no strip is left for 6", x.told(6, 10), -1);
        S.due("no strip is left for 7", x.told(7, 10), -1);
    }

    private static void held() {
        S.of(0, "HELD for so many YEARS (0 .. 999)");
        takesAll(6, 0, 0, 999);
        S.due("as one gets it", given().told(0, 6), 0);
    }

    private static void warned() {
        S.of(0, "WARNED so often (0 .. 9)");
        takesAll(7, 0, 0, 9);
        S.due("as one gets it", given().told(0, 7), 0);
    }

    private static FourYearsForAStrip given() {
        FourYearsForAStrip x = Check.with(0, 0);
        x.give(0, 0);
        return x;
    }

    private static void waits() {
        S.of(0, "or WAITS (as one comes) on THE LIST, for so many YEARS (0 .. 999; 0 as one comes)");
        FourYearsForAStrip x = Check.with(2, 2);
        S.due("waits", x.told(0, 10), -1);
        S.due("for 0 years", x.told(0, 8), 0);
        S.due("on the list", x.list(0), 0);
        takesAll(8, 2, 0, 999);
    }

    private static void gone() {
        S.of(0, "or is GONE");
        FourYearsForAStrip x = Gardens.some();
        S.due("is gone", x.told(4, 10), -5);
        S.due("nobody has it", x.told(2, 11), -1);
        S.due("gone for good", x.give(4, 2), -3);
        x.year();
        S.due("and behind a year", x.told(4, 10), -5);
    }

    private static void constants() {
        S.of(0, "NONE is -1; NO, where a long is answered, -4611686018427387904.");
        S.due("NONE", FourYearsForAStrip.NONE, -1);
        S.due("a NONE", Gardens.untouched().list(0), -1);
        S.due("NO", FourYearsForAStrip.NO, -4611686018427387904L);
        S.due("a NO", Gardens.untouched().chance(0, 0, 0, 0), -4611686018427387904L);
    }

    /** A PENSIONER's: 20 less held by 4. */
    private static void quotients() {
        S.of(0, "Quotients are cut toward 0.");
        int[] held = {0, 1, 3, 4, 5, 7, 8, 79, 80, 81, 999};
        int[] due = {20, 20, 20, 19, 19, 19, 18, 1, 0, 0, 0};
        for (int i = 0; i < held.length; i++) {
            S.due("held " + held[i], tends(10, 3, 0, held[i], 0), due[i]);
        }
    }

    private static void firstRefusal() {
        S.of(0, "Refusals, the first that the call's words name; they change nothing: BAD (-2: a number is none such or"
            + " not as told), STATE (-3), FULL (-4)");
        S.due("BAD", FourYearsForAStrip.BAD, -2);
        S.due("STATE", FourYearsForAStrip.STATE, -3);
        S.due("FULL", FourYearsForAStrip.FULL, -4);
        S.refused("tenant: BAD ahead of FULL", Gardens::crowded, x -> x.tenant(6, 0), -2);
        S.refused("tenant: BAD ahead of FULL", Gardens::crowded, x -> x.tenant(0, 10), -2);
        S.refused("tenant: FULL", Gardens::crowded, x -> x.tenant(5, 9), -4);
        S.refused("give: BAD ahead of STATE", Gardens::some, x -> x.give(0, 6), -2);
        S.refused("give: BAD ahead of FULL", Gardens::some, x -> x.give(6, 0), -2);
        S.refused("give: STATE ahead of FULL", Gardens::some, x -> x.give(0, 1), -3);
        S.refused("give: STATE ahead of FULL, gone", Gardens::some, x -> x.give(4, 1), -3);
        S.refused("outOfTurn: BAD ahead of STATE", Gardens::some, x -> x.outOfTurn(0, 31, 0), -2);
        S.refused("outOfTurn: BAD ahead of STATE", Gardens::some, x -> x.outOfTurn(0, 0, 2), -2);
        S.refused("outOfTurn: STATE", Gardens::some, x -> x.outOfTurn(0, 0, 0), -3);
        S.refused("year: STATE", Gardens::late, FourYearsForAStrip::year, -3);
    }

    private static void unlike() {
        S.of(0, "the host's: -11 nothing where something is asked, -12 a place outside, -13 a thing of another sort or"
            + " KIND, -14 a size below 0.");
        S.refused("-11: a missing sheet", Gardens::some, x -> x.cell(3, 0, 0), -11);
        S.refused("-11: nobody", Gardens::some, x -> x.taken(6, 0), -11);
        S.refused("-12: no item", Gardens::some, x -> x.cell(0, 5, 0), -12);
        S.refused("-13: unlike sheets", Gardens::some, x -> x.copy(0, 0, 1, 0, 1), -13);
        S.refused("-13: another kind", Gardens::some, x -> x.taken(0, 1), -13);
        S.refused("-14: a size", Gardens::some, x -> x.sheet(0, 0, -1), -14);
    }

    // ---- kinds

    private static int tends(int digs, int kind, int number, int held, int warned) {
        FourYearsForAStrip x = Check.ruled("digs " + digs + ";weeds 0;stays 0;", kind, number);
        x.give(0, 0);
        x.set(6, 0, held);
        x.set(7, 0, warned);
        return x.told(0, 12);
    }

    private static int stays(int stays, int kind, int number, int held) {
        FourYearsForAStrip x = Check.ruled("digs 0;weeds 0;stays " + stays + ";", kind, number);
        x.give(0, 0);
        x.set(6, 0, held);
        return x.told(0, 13);
    }

    /** Whether one who alone waits for strip 0, all being wet, has it behind a year. */
    private static boolean bears(int kind, int number) {
        FourYearsForAStrip x = Check.with(kind, number);
        for (int strip = 0; strip < 6; strip++) {
            x.set(4, strip, 1);
        }
        x.year();
        return x.told(0, 10) == 0;
    }

    private static void ofKinds() {
        tendsOfTenant();
        tendsOfIdle();
        tendsOfPensioner();
        tendsOfHeir();
        tendsOfFencer();
        tendsNothingAtLeast();
        staysOfTenant();
        staysOfIdle();
        staysOfKeen();
        staysOfPensioner();
        staysOfHeir();
        staysOfFencer();
        bearsOfEach();
    }

    private static void tendsOfTenant() {
        S.of(0, "TENANT: v; KEEN: twice a TENANT's");
        for (int v : new int[] {0, 1, 49, 50, 99}) {
            S.due("TENANT of " + v, tends(v, 0, 9, 999, 9), v);
            S.due("KEEN of " + v, tends(v, 1, 9, 999, 9), 2 * v);
        }
    }

    private static void tendsOfIdle() {
        S.of(0, "IDLE: a TENANT's, if w is above 0, else 0");
        S.due("warned 0", tends(20, 2, 9, 0, 0), 0);
        S.due("warned 1", tends(20, 2, 9, 0, 1), 20);
        S.due("warned 9", tends(20, 2, 9, 0, 9), 20);
    }

    private static void tendsOfPensioner() {
        S.of(0, "PENSIONER: a KEEN's, less HELD by 4 (cut)");
        S.due("the most", tends(99, 3, 0, 0, 0), 198);
        S.due("held 3", tends(99, 3, 0, 3, 0), 198);
        S.due("held 4", tends(99, 3, 0, 4, 0), 197);
        S.due("held 791", tends(99, 3, 0, 791, 0), 1);
        S.due("held 792", tends(99, 3, 0, 792, 0), 0);
        S.due("held 999", tends(99, 3, 0, 999, 0), 0);
    }

    private static void tendsOfHeir() {
        S.of(0, "HEIR: NUMBER more than an IDLE");
        S.due("number 0", tends(99, 4, 0, 0, 0), 0);
        S.due("number 9", tends(99, 4, 9, 0, 0), 9);
        S.due("number 9, warned", tends(99, 4, 9, 0, 1), 108);
    }

    private static void tendsOfFencer() {
        S.of(0, "FENCER: 3 less than a TENANT");
        S.due("of 99", tends(99, 5, 0, 0, 0), 96);
        S.due("of 4", tends(4, 5, 0, 0, 0), 1);
        S.due("of 3", tends(3, 5, 0, 0, 0), 0);
    }

    private static void tendsNothingAtLeast() {
        S.of(0, "(TENDS 0 at least.)");
        S.due("FENCER of 2", tends(2, 5, 0, 0, 0), 0);
        S.due("FENCER of 0", tends(0, 5, 0, 0, 0), 0);
        S.due("PENSIONER of 0", tends(0, 3, 0, 999, 0), 0);
        S.due("TENANT of 0", tends(0, 0, 0, 0, 0), 0);
        FourYearsForAStrip x = Check.ruled("digs 0;weeds 0;stays 99;", 5, 0);
        x.give(0, 0);
        x.year();
        S.due("a FENCER of 0 leaves it as it is", x.told(0, 3), 50);
    }

    private static void staysOfTenant() {
        S.of(0, "TENANT: if h is below v");
        S.due("0 of 0", stays(0, 0, 0, 0), 0);
        S.due("0 of 1", stays(1, 0, 0, 0), 1);
        S.due("98 of 99", stays(99, 0, 0, 98), 1);
        S.due("99 of 99", stays(99, 0, 0, 99), 0);
    }

    private static void staysOfIdle() {
        S.of(0, "IDLE: as a TENANT; PENSIONER: if h is below 30");
        S.due("IDLE 0 of 0", stays(0, 2, 9, 0), 0);
        S.due("IDLE 98 of 99", stays(99, 2, 0, 98), 1);
        S.due("IDLE 99 of 99", stays(99, 2, 0, 99), 0);
    }

    private static void staysOfKeen() {
        S.of(0, "KEEN: if it is below twice v");
        S.due("0 of 0", stays(0, 1, 0, 0), 0);
        S.due("1 of 1", stays(1, 1, 0, 1), 1);
        S.due("2 of 1", stays(1, 1, 0, 2), 0);
        S.due("197 of 99", stays(99, 1, 0, 197), 1);
        S.due("198 of 99", stays(99, 1, 0, 198), 0);
    }

    private static void staysOfPensioner() {
        S.of(0, "PENSIONER: if h is below 30");
        S.due("29", stays(0, 3, 0, 29), 1);
        S.due("30", stays(99, 3, 0, 30), 0);
        S.due("0", stays(0, 3, 0, 0), 1);
    }

    private static void staysOfHeir() {
        S.of(0, "HEIR: as an IDLE, or if NUMBER is above 6");
        S.due("number 6", stays(5, 4, 6, 5), 0);
        S.due("number 6, below", stays(5, 4, 6, 4), 1);
        S.due("number 7", stays(0, 4, 7, 999), 1);
        S.due("number 9", stays(0, 4, 9, 999), 1);
    }

    private static void staysOfFencer() {
        S.of(0, "FENCER: always");
        S.due("999 of 0", stays(0, 5, 0, 999), 1);
    }

    private static void bearsOfEach() {
        S.of(0, "TENANT: yes; KEEN: no; IDLE: as a TENANT; PENSIONER: as a KEEN; HEIR: as an IDLE;"
            + " FENCER: if NUMBER is odd.");
        boolean[] due = {true, false, true, false, true};
        for (int kind = 0; kind < 5; kind++) {
            S.holds("kind " + kind, bears(kind, 0) == due[kind]);
            S.holds("kind " + kind + ", odd", bears(kind, 9) == due[kind]);
        }
        for (int number = 0; number < 10; number++) {
            S.holds("FENCER " + number, bears(5, number) == (number % 2 == 1));
        }
    }

    // ---- calls

    private static void newObject() {
        S.of(1, "No PEOPLE.");
        FourYearsForAStrip x = Gardens.untouched();
        S.due("people", x.count(0), 0);
        S.due("who have a strip", x.count(1), 0);
        S.due("who wait", x.count(2), 0);
        S.due("who are gone", x.count(3), 0);
        S.due("the first of the list", x.list(0), -1);
        for (int strip = 0; strip < 6; strip++) {
            S.due("who has " + strip, x.told(strip, 11), -1);
        }
        S.refused("told(0, 9)", Gardens::untouched, g -> g.told(0, 9), -2);
        S.refused("give(0, 0)", Gardens::untouched, g -> g.give(0, 0), -2);
        S.refused("strikeOff(0)", Gardens::untouched, g -> g.strikeOff(0), -2);
        S.refused("takes(0)", Gardens::untouched, g -> g.takes(0), -2);
        S.refused("run(0, 30)", Gardens::untouched, g -> g.run(0, 30), -2);
        S.refused("taken(0, 0)", Gardens::untouched, g -> g.taken(0, 0), -11);
        S.due("an image of none", x.image(), 0);
    }

    private static void set() {
        S.of(2, "YEAR (what 0; of does not matter), LIMIT (1; nor), LETTERS (2; nor)");
        int[] due = {12, 40, 4};
        for (int what = 0; what < 3; what++) {
            for (int of : new int[] {-1, 0, 6, 8, Integer.MIN_VALUE, Integer.MAX_VALUE}) {
                S.due("set(" + what + ", " + of + ", 7)", Gardens.some().set(what, of, 7), due[what]);
            }
        }
        S.of(2, "how well a STRIP is TENDED (3), WET (4)");
        S.within("set(3, strip, 9)", Gardens::some, 0, 5, (x, v) -> x.set(3, v, 9), -2);
        S.within("set(4, strip, 1)", Gardens::some, 0, 5, (x, v) -> x.set(4, v, 1), -2);
    }

    private static void setOfWhom() {
        S.of(2, "NUMBER (5) of one of PEOPLE");
        S.within("set(5, one, 9)", Gardens::some, 0, 5, (x, v) -> x.set(5, v, 9), -2);
        S.within("set(5, one, 9), eight", Gardens::crowded, 0, 7, (x, v) -> x.set(5, v, 9), -2);
        S.due("also of one gone", Gardens.some().set(5, 4, 9), 7);
        S.of(2, "HELD (6), WARNED (7; of one who has a STRIP)");
        for (int what = 6; what <= 7; what++) {
            int w = what;
            S.within("set(" + w + ", one, 9)", Gardens::some, 0, 1, (x, v) -> x.set(w, v, 9), -2);
            S.refused("of one who waits", Gardens::some, x -> x.set(w, 2, 9), -2);
            S.refused("of one gone", Gardens::some, x -> x.set(w, 4, 9), -2);
        }
        S.of(2, "for how long one WAITS (8; of one who does)");
        S.within("set(8, one, 9)", Gardens::some, 2, 3, (x, v) -> x.set(8, v, 9), -2);
        S.refused("of one gone", Gardens::some, x -> x.set(8, 4, 9), -2);
        S.due("of the last", Gardens.some().set(8, 5, 9), 0);
        S.refused("of nobody", Gardens::some, x -> x.set(8, 6, 9), -2);
        S.of(2, "becomes v: what it was. BAD.");
        S.within("set(what, 0, 1)", Gardens::some, 0, 7, (x, v) -> x.set(v, 0, 1), -2);
        S.within("set(what, 2, 1)", Gardens::some, 0, 5, (x, v) -> x.set(v, 2, 1), -2);
        S.due("what 8", Gardens.some().set(8, 2, 1), 7);
        S.refused("what 9", Gardens::some, x -> x.set(9, 2, 1), -2);
    }

    private static void tenant() {
        S.of(3, "One of PEOPLE, waiting: the number. BAD; FULL.");
        S.within("tenant(kind, 0)", Gardens::some, 0, 5, (x, v) -> x.tenant(v, 0), -2);
        S.within("tenant(0, number)", Gardens::some, 0, 9, (x, v) -> x.tenant(0, v), -2);
        FourYearsForAStrip x = Gardens.some();
        S.due("the seventh", x.tenant(5, 9), 6);
        S.due("the eighth", x.tenant(0, 0), 7);
        S.due("none more", x.tenant(0, 0), -4);
        S.due("the last waits", x.told(7, 10), -1);
        S.due("for 0 years", x.told(7, 8), 0);
        S.refused("a ninth", Gardens::crowded, g -> g.tenant(0, 0), -4);
        S.due("one gone makes no room", Gardens.crowded().tenant(0, 0), -4);
    }

    private static void told() {
        S.of(4, "What 0 .. 8 as of set(), 9 KIND, 10 the STRIP one has (NONE: one WAITS; -5: GONE), 11 who has a STRIP"
            + " (NONE), 12 TENDS, 13 whether one STAYS (1, 0; 12, 13 of one who has a STRIP).");
        FourYearsForAStrip x = Gardens.some();
        S.due("10, waiting", x.told(2, 10), -1);
        S.due("10, gone", x.told(4, 10), -5);
        S.due("10, strip 1", x.told(1, 10), 1);
        S.due("11, nobody", x.told(2, 11), -1);
        S.due("11, one", x.told(1, 11), 1);
        S.due("12", x.told(0, 12), 7);
        S.due("13, stays", x.told(0, 13), 1);
        x.set(6, 0, 30);
        S.due("13, doesn't", x.told(0, 13), 0);
        for (int what = 0; what <= 2; what++) {
            S.due("of does not matter", x.told(Integer.MIN_VALUE, what), x.told(0, what));
            S.due("of does not matter", x.told(Integer.MAX_VALUE, what), x.told(0, what));
        }
    }

    private static void toldOfNone() {
        S.of(4, "BAD (6, 7, 12, 13: who has none; 8: who doesn't wait).");
        for (int what : new int[] {6, 7, 12, 13}) {
            S.within("told(one, " + what + ")", Gardens::some, 0, 1, (x, v) -> x.told(v, what), -2);
            S.refused("of one who waits, " + what, Gardens::some, x -> x.told(3, what), -2);
            S.refused("of one gone, " + what, Gardens::some, x -> x.told(4, what), -2);
        }
        S.within("told(one, 8)", Gardens::some, 2, 3, (x, v) -> x.told(v, 8), -2);
        S.refused("8 of one gone", Gardens::some, x -> x.told(4, 8), -2);
        for (int what : new int[] {5, 9, 10}) {
            S.within("told(one, " + what + ")", Gardens::some, 0, 5, (x, v) -> x.told(v, what), -2);
            S.within("told(one, " + what + "), eight", Gardens::crowded, 0, 7, (x, v) -> x.told(v, what), -2);
        }
        for (int what : new int[] {3, 4, 11}) {
            S.within("told(strip, " + what + "), eight", Gardens::crowded, 0, 5, (x, v) -> x.told(v, what), -2);
        }
        S.within("told(0, what)", Gardens::some, 0, 7, (x, v) -> x.told(0, v), -2);
        S.within("told(0, what)", Gardens::some, 9, 13, (x, v) -> x.told(0, v), -2);
    }

    private static void give() {
        S.of(5, "One who WAITS truly has a STRIP (HELD 0, WARNED 0): the STRIP.");
        for (int strip = 2; strip < 6; strip++) {
            FourYearsForAStrip x = Gardens.some();
            S.due("give(3, " + strip + ")", x.give(3, strip), strip);
            S.due("has it", x.told(3, 10), strip);
            S.due("held", x.told(3, 6), 0);
            S.due("warned", x.told(3, 7), 0);
            S.due("waits no more", x.count(2), 2);
        }
        FourYearsForAStrip x = Gardens.untouched();
        x.tenant(0, 0);
        S.due("strip 0", x.give(0, 0), 0);
        FourYearsForAStrip y = Gardens.crowded();
        S.due("the eighth, strip 5", y.give(7, 5), 5);
    }

    private static void giveIsRefused() {
        S.of(5, "BAD; STATE: one doesn't WAIT; FULL: somebody has it.");
        S.within("give(one, 2)", Gardens::some, 0, 5, (x, v) -> x.give(v, 2), -2);
        S.within("give(2, strip)", Gardens::some, 0, 5, (x, v) -> x.give(2, v), -2);
        S.refused("to one who has one", Gardens::some, x -> x.give(0, 2), -3);
        S.refused("to one who has that", Gardens::some, x -> x.give(0, 0), -3);
        S.refused("to one gone", Gardens::some, x -> x.give(4, 2), -3);
        S.refused("strip 0, which one has", Gardens::some, x -> x.give(2, 0), -4);
        S.refused("strip 1, which one has", Gardens::some, x -> x.give(5, 1), -4);
    }

    private static void strikeOff() {
        S.of(6, "One truly is GONE: the STRIP one had (NONE: none).");
        FourYearsForAStrip x = Gardens.some();
        S.due("strip 0", x.strikeOff(0), 0);
        S.due("strip 1", x.strikeOff(1), 1);
        S.due("none", x.strikeOff(5), -1);
        S.due("gone", x.count(3), 4);
        S.due("nobody has 0", x.told(0, 11), -1);
        S.of(6, "BAD; STATE: one is.");
        S.within("strikeOff(one)", Gardens::some, 0, 5, (g, v) -> g.strikeOff(v), -2);
        S.within("strikeOff(one), eight", Gardens::crowded, 0, 7, (g, v) -> g.strikeOff(v), -2);
        S.refused("one who is gone", Gardens::some, g -> g.strikeOff(4), -3);
        S.due("one who was just struck off", x.strikeOff(5), -3);
    }

    private static void list() {
        S.of(7, "Who is at place k (from 0) of THE LIST. NONE: nobody.");
        FourYearsForAStrip x = Gardens.some();
        int[] due = {2, 3, 5};
        for (int k = 0; k < 3; k++) {
            S.due("list(" + k + ")", x.list(k), due[k]);
        }
        S.within("list(k)", Gardens::some, 0, 2, (g, v) -> g.list(v), -1);
        S.within("list(k), five wait", Gardens::crowded, 0, 4, (g, v) -> g.list(v), -1);
        S.due("of none", Gardens.untouched().list(0), -1);
        FourYearsForAStrip all = Check.with(0, 0, 0, 0, 0, 0, 0, 0, 0, 0, 0, 0, 0, 0, 0, 0);
        for (int k = 0; k < 8; k++) {
            S.due("of eight, " + k, all.list(k), k);
        }
        S.due("of eight, 8", all.list(8), -1);
        S.of(0, "THE LIST: all who WAIT, who has done so longer first; of like ones by numbers.");
        all.set(8, 7, 999);
        all.set(8, 3, 998);
        all.set(8, 5, 999);
        int[] longer = {5, 7, 3, 0, 1, 2, 4, 6};
        for (int k = 0; k < 8; k++) {
            S.due("list(" + k + ")", all.list(k), longer[k]);
        }
    }
}
