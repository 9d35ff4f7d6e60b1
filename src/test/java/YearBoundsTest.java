import java.util.function.ToLongFunction;

/** The boundary cases that promises 11 to 18, and the terms of years and of what is best, name. */
public final class YearBoundsTest {
    private static final Sentences S = new Sentences();
    private static final int FENCER = 5;

    public static void main(String[] args) {
        weeds();
        tending();
        warning();
        losing();
        holding();
        waiting();
        handingOut();
        yearIsMore();
        thoughtYears();
        howMany();
        howLong();
        tendedWell();
        strictTerm();
        outOfTurnTerm();
        drainTerm();
        strikeTerm();
        changeTerm();
        year();
        run();
        takes();
        strict();
        outOfTurn();
        drain();
        strike();
        change();
        S.end();
    }

    private static FourYearsForAStrip holding(String rule, int kind, int number) {
        FourYearsForAStrip x = Check.ruled(rule, kind, number);
        x.give(0, 0);
        return x;
    }

    // ---- a year

    private static void weeds() {
        S.of(0, "STRIP by STRIP: first weeds (twice as much, if it is WET) make it so much less TENDED (0 at least)");
        int[] level = {0, 11, 12, 13, 24, 25, 99};
        int[] dry = {0, 0, 0, 1, 12, 13, 87};
        int[] wet = {0, 0, 0, 0, 0, 1, 75};
        for (int i = 0; i < level.length; i++) {
            FourYearsForAStrip x = Gardens.untouched();
            x.set(3, 0, level[i]);
            x.set(3, 5, level[i]);
            x.set(4, 5, 1);
            x.year();
            S.due("dry, of " + level[i], x.told(0, 3), dry[i]);
            S.due("wet, of " + level[i], x.told(5, 3), wet[i]);
        }
        FourYearsForAStrip x = holding("digs 5;weeds 60;stays 99;", 0, 0);
        x.year();
        S.due("0 at least ahead of tending", x.told(0, 3), 5);
    }

    private static void tending() {
        S.of(0, "then, if one has it, one TENDS: so much more (99 at most; both told as it is then).");
        int[] level = {0, 48, 49, 50, 51, 99};
        int[] due = {50, 98, 99, 99, 99, 99};
        for (int i = 0; i < level.length; i++) {
            FourYearsForAStrip x = holding("digs 50;weeds 0;stays 99;", 0, 0);
            x.set(3, 0, level[i]);
            x.year();
            S.due("50 more than " + level[i], x.told(0, 3), due[i]);
        }
        FourYearsForAStrip most = holding("digs 99;weeds 99;stays 99;", 1, 0);
        most.set(3, 0, 99);
        most.year();
        S.due("198 more than 0", most.told(0, 3), 99);
        FourYearsForAStrip then = holding("digs level*10;weeds level;stays 99;", 0, 0);
        then.year();
        S.due("digs are told behind weeds", then.told(0, 3), 0);
        FourYearsForAStrip ahead = holding("digs level;weeds level<50;stays 99;", 0, 0);
        ahead.year();
        S.due("weeds are told ahead of digs", ahead.told(0, 3), 99);
    }

    private static void warning() {
        S.of(0, "Then each who has a STRIP, by numbers: if it is less TENDED than LIMIT, one is WARNED once more"
            + " (9 at most)");
        int[][] cases = {{0, 0, 0}, {0, 1, 1}, {98, 99, 1}, {99, 99, 0}, {29, 30, 1}, {30, 30, 0}, {31, 30, 0}};
        for (int[] c : cases) {
            FourYearsForAStrip x = holding("digs 0;weeds 0;stays 99;", 0, 0);
            x.set(3, 0, c[0]);
            x.set(1, 0, c[1]);
            x.year();
            S.due(c[0] + " by limit " + c[1], x.told(0, 7), c[2]);
        }
        // 9 letters are never outlived: one WARNED 8 times is gone by the next, one WARNED 9 times by none more
        FourYearsForAStrip x = Check.with(FENCER, 0, FENCER, 0, FENCER, 0);
        for (int one = 0; one < 3; one++) {
            x.give(one, one);
            x.set(7, one, 7 + one);
        }
        x.set(1, 0, 99);
        x.set(2, 0, 9);
        S.due("two are gone", x.year(), 2);
        S.due("7 and once more", x.told(0, 7), 8);
        S.due("8 and once more", x.told(1, 10), -5);
        S.due("9", x.told(2, 10), -5);
    }

    private static void losing() {
        S.of(0, "one who is WARNED LETTERS times or more is GONE");
        for (int letters = 1; letters <= 9; letters++) {
            for (int warned = 0; warned <= 9; warned++) {
                FourYearsForAStrip x = holding("digs 0;weeds 0;stays 99;", FENCER, 0);
                x.set(1, 0, 0);
                x.set(2, 0, letters);
                x.set(7, 0, warned);
                S.due("warned " + warned + " of " + letters, x.year(), warned >= letters ? 1 : 0);
            }
        }
        FourYearsForAStrip x = Check.with(FENCER, 0, 0, 1);
        x.give(0, 0);
        x.set(1, 0, 99);
        x.set(2, 0, 1);
        x.set(4, 0, 1);
        S.due("one is gone", x.year(), 1);
        S.due("and the strip is free for the next at once", x.told(0, 11), 1);
        S.due("who isn't warned in that year", x.told(1, 7), 0);
    }

    private static void holding() {
        S.of(0, "anybody else has HELD it 1 YEAR more (999 at most), and is GONE, if one doesn't STAY (told then).");
        int[] held = {0, 997, 998, 999};
        int[] due = {1, 998, 999, 999};
        for (int i = 0; i < held.length; i++) {
            FourYearsForAStrip x = holding("digs 9;weeds 0;stays 0;", FENCER, 0);
            x.set(6, 0, held[i]);
            S.due("a FENCER stays", x.year(), 0);
            S.due("held " + held[i], x.told(0, 6), due[i]);
        }
        for (int[] c : new int[][] {{18, 0}, {19, -5}}) {
            FourYearsForAStrip x = holding("digs 9;weeds 0;stays 20;", 0, 0);
            x.set(6, 0, c[0]);
            x.year();
            S.due("a TENANT, held " + c[0], x.told(0, 10), c[1]);
        }
        FourYearsForAStrip none = holding("digs 9;weeds 0;stays 1;", 0, 0);
        none.year();
        S.due("stays 1: gone behind the first", none.told(0, 10), -5);
        FourYearsForAStrip x = holding("digs 9;weeds 0;stays 2;", 0, 0);
        x.year();
        S.due("stays 2: has it behind the first", x.told(0, 10), 0);
        FourYearsForAStrip then = holding("digs 9;weeds 0;stays held*2-1;", 0, 0);
        then.year();
        S.due("told of 1 year held: 1 isn't below 1", then.told(0, 10), -5);
    }

    private static void waiting() {
        S.of(0, "Then each who WAITS does so for 1 YEAR more (999 at most).");
        FourYearsForAStrip x = Check.with(1, 0, 1, 0, 1, 0, 1, 0);
        for (int strip = 0; strip < 6; strip++) {
            x.set(4, strip, 1);
        }
        x.set(8, 1, 997);
        x.set(8, 2, 998);
        x.set(8, 3, 999);
        x.year();
        int[] due = {1, 998, 999, 999};
        for (int one = 0; one < 4; one++) {
            S.due("waits, " + one, x.told(one, 8), due[one]);
        }
        S.due("of like ones by numbers", x.list(0), 2);
        x.year();
        S.due("all who wait 999 are like", x.list(0), 1);
    }

    private static void handingOut() {
        S.of(0, "Then STRIP by STRIP, if nobody has it: the first of THE LIST who takes it (BEARS, if it is WET) has it,"
            + " HELD 0, WARNED 0.");
        // strip 5 alone is free; 998 and 999 years of waiting are like behind the year
        FourYearsForAStrip x = Check.ruled("digs 50;weeds 0;stays 99;", 0, 0, 0, 0, FENCER, 0, FENCER, 0, FENCER, 0,
            FENCER, 0, FENCER, 0);
        for (int one = 2; one < 7; one++) {
            x.give(one, one - 2);
        }
        x.set(8, 0, 998);
        x.set(8, 1, 999);
        S.due("ahead of it the longer one is first", x.list(0), 1);
        x.year();
        S.due("of like ones the first by numbers", x.told(5, 11), 0);
        S.due("held", x.told(0, 6), 0);
        S.due("warned", x.told(0, 7), 0);
        FourYearsForAStrip wet = Check.with(1, 0, 3, 1, FENCER, 8, FENCER, 9);
        for (int strip = 0; strip < 6; strip++) {
            wet.set(4, strip, strip < 5 ? 1 : 0);
        }
        wet.year();
        S.due("wet 0: the first who bears it", wet.told(0, 11), 3);
        S.due("wet 4: nobody", wet.told(4, 11), -1);
        S.due("dry 5: the first", wet.told(5, 11), 0);
        S.due("two wait on", wet.count(2), 2);
        FourYearsForAStrip none = Gardens.untouched();
        none.year();
        S.due("of an empty list nobody", none.told(0, 11), -1);
        FourYearsForAStrip letters = Check.with(2, 0);
        letters.set(1, 0, 99);
        letters.set(2, 0, 1);
        S.due("who comes to it now isn't warned", letters.year(), 0);
    }

    private static void yearIsMore() {
        S.of(0, "YEAR is 1 more.");
        FourYearsForAStrip x = Gardens.untouched();
        x.year();
        S.due("0 and 1", x.count(4), 1);
        x.set(0, 0, 998);
        x.year();
        S.due("998 and 1", x.count(4), 999);
        FourYearsForAStrip y = Check.ruled("digs 0;weeds year=1;stays 0;");
        S.due("the first year is told as 0", y.run(1, 10), 50);
        S.due("the second as 1", y.run(2, 10), 49);
        FourYearsForAStrip z = Check.ruled("digs 0;weeds 999<year;stays 0;");
        z.set(0, 0, 999);
        S.due("in thought 999 is told", z.run(1, 10), 50);
        S.due("and 1000 behind it", z.run(2, 10), 49);
        S.due("up to 1028", z.run(30, 10), 21);
        S.due("truly it is 999 still", z.count(4), 999);
    }

    // ---- years in thought, and what would be best

    private static void thoughtYears() {
        S.of(0, "n YEARS (0 .. 30), in thought");
        S.within("run(n, 4)", Gardens::some, 0, 30, (x, v) -> x.run(v, 4), -2);
        FourYearsForAStrip x = Check.ruled("digs 0;weeds 1;stays 0;");
        S.due("0", x.run(0, 10), 50);
        S.due("1", x.run(1, 10), 49);
        S.due("29", x.run(29, 10), 21);
        S.due("30", x.run(30, 10), 20);
        unchanged("run(30, 4)", g -> g.run(30, 4));
        unchanged("takes(3)", g -> g.takes(3));
        unchanged("strict(30, 0)", g -> g.strict(30, 0));
        unchanged("outOfTurn(2, 30, 0)", g -> g.outOfTurn(2, 30, 0));
        unchanged("drain(30, 0)", g -> g.drain(30, 0));
        unchanged("strike(30, 0)", g -> g.strike(30, 0));
        unchanged("change(30, 0)", g -> g.change(30, 0));
    }

    private static void howMany() {
        S.of(0, "how many STRIPS nobody has at last, how many are less TENDED than LIMIT at last, how many are GONE, how"
            + " many WAIT");
        FourYearsForAStrip x = Check.ruled("digs 0;weeds 20;stays 2;", 0, 0, 0, 0, 0, 0, 0, 0, 0, 0, 0, 0, 0, 0, 0, 0);
        // 0: all wait. 1: six have strips, at 30. 2: at 10, below, and warned. 3: at 0; six leave, the last two come
        int[][] due = {{6, 0, 0, 8}, {0, 0, 0, 2}, {0, 6, 0, 2}, {4, 6, 6, 0}};
        for (int n = 0; n < due.length; n++) {
            for (int what = 0; what < 4; what++) {
                S.due("run(" + n + ", " + what + ")", x.run(n, what), due[n][what]);
            }
        }
        S.due("all are gone at last", x.run(30, 2), 8);
        S.due("and nobody has a strip", x.run(30, 0), 6);
    }

    /** What is thought changes nothing, as what is refused. */
    private static void unchanged(String call, ToLongFunction<FourYearsForAStrip> asked) {
        S.refused(call, Gardens::some, asked, asked.applyAsLong(Gardens.some()));
        S.refused(call + ", late", Gardens::late, asked, asked.applyAsLong(Gardens.late()));
    }

    /** Strips 1 to 5 are held for good; a TENANT has strip 0 and stays for 99 years; one waits for it. */
    private static FourYearsForAStrip one(int held) {
        FourYearsForAStrip x = Check.ruled("digs 20;weeds 0;stays 99;", 0, 0, FENCER, 0, FENCER, 0, FENCER, 0, FENCER, 0,
            FENCER, 0, 0, 0);
        for (int one = 0; one < 6; one++) {
            x.give(one, one);
        }
        x.set(6, 0, held);
        return x;
    }

    private static void howLong() {
        S.of(0, "how many YEARS it takes till one has a STRIP, or is GONE (1 ..; 0: one has one, or is GONE, now);"
            + " NONE: more than 30.");
        S.due("has one", one(0).takes(0), 0);
        S.due("the next year", one(98).takes(6), 1);
        S.due("29", one(70).takes(6), 29);
        S.due("30", one(69).takes(6), 30);
        S.due("31 is more", one(68).takes(6), -1);
        S.due("never is more", one(0).takes(6), -1);
        S.due("is gone", Gardens.some().takes(4), 0);
    }

    private static void tendedWell() {
        S.of(0, "TENDED WELL: how well all STRIPS are TENDED at last, together.");
        FourYearsForAStrip x = Gardens.untouched();
        S.due("at first", x.run(0, 4), 300);
        for (int strip = 0; strip < 6; strip++) {
            x.set(3, strip, 99);
        }
        S.due("the most", x.run(0, 4), 594);
        for (int strip = 0; strip < 6; strip++) {
            x.set(3, strip, 0);
        }
        S.due("the least", x.run(0, 4), 0);
    }

    /** An IDLE at a level that needs a letter to dig: the limit must be above it. */
    private static FourYearsForAStrip idleAt(int level) {
        FourYearsForAStrip x = holding("digs 99;weeds 0;stays 99;", 2, 0);
        x.set(3, 0, level);
        return x;
    }

    private static void strictTerm() {
        S.of(0, "STRICT (n): LIMIT (0 .. 99) by which, were it that, all would be TENDED WELL most, together; of like"
            + " ones the least.");
        S.due("1 is the least that warns of 0", idleAt(0).strict(2, 0), 1);
        S.due("99 that warns of 98", idleAt(98).strict(2, 0), 99);
        S.due("none that warns of 99: 0", idleAt(99).strict(2, 0), 0);
        S.due("behind 1 all are like: 0", idleAt(0).strict(1, 0), 0);
        S.due("behind 0 all are like: 0", idleAt(0).strict(0, 0), 0);
        S.due("well then", idleAt(0).strict(2, 1), 250 + 99);
        S.due("well now", idleAt(0).strict(0, 1), 250);
        FourYearsForAStrip x = Gardens.untouched();
        S.due("of nobody: 0", x.strict(30, 0), 0);
        S.due("though it is nothing", x.strict(30, 1), 0);
        S.due("a call stands by itself: more", x.strict(0, 1), 300);
        S.due("a call stands by itself: less", x.strict(2, 1), 156);
        S.due("limit is as it was", x.told(0, 1), 30);
    }

    private static void outOfTurnTerm() {
        S.of(0, "OUT OF TURN (a STRIP nobody has, n): who, waiting, should have it now (HELD 0, WARNED 0) so that all"
            + " would be TENDED WELL most; of like ones the first by numbers; NONE.");
        FourYearsForAStrip x = Check.with(0, 0, 0, 0, 0, 0, 0, 0, 0, 0, 0, 0, 0, 0, 1, 0);
        S.due("the last of eight", x.outOfTurn(5, 1, 0), 7);
        S.due("behind 0 the first", x.outOfTurn(5, 0, 0), 0);
        S.due("on strip 0, too", x.outOfTurn(0, 1, 0), 7);
        x.strikeOff(7);
        S.due("one gone is none; of like ones the first", x.outOfTurn(0, 1, 0), 0);
        x.give(0, 5);
        S.due("one who has one is none", x.outOfTurn(0, 1, 0), 1);
        FourYearsForAStrip none = holding("digs 9;weeds 12;stays 20;", 0, 0);
        S.due("nobody waits", none.outOfTurn(1, 1, 0), -1);
        S.due("as now", none.outOfTurn(1, 1, 1), 47 + 5 * 38);
        FourYearsForAStrip worse = Check.with(1, 0);
        worse.set(4, 5, 1);
        worse.set(1, 0, 0);
        S.due("as now", worse.run(10, 4), 92);
        S.due("one alone, though it is worse than as now", worse.outOfTurn(5, 10, 0), 0);
        S.due("well then", worse.outOfTurn(5, 10, 1), 18);
        FourYearsForAStrip fresh = Check.ruled("digs 9-held-warned;weeds 0;stays 99;", 0, 0);
        fresh.set(8, 0, 999);
        S.due("held 0, warned 0", fresh.outOfTurn(5, 1, 1), 309);
        FourYearsForAStrip longer = Check.with(2, 0, 1, 0);
        longer.set(8, 0, 999);
        S.due("who waits longer has no better right", longer.outOfTurn(3, 1, 0), 1);
    }

    private static void drainTerm() {
        S.of(0, "DRAIN (n): the WET STRIP by whose not being so all would be TENDED WELL most, if more than now; of like"
            + " ones the first; NONE.");
        FourYearsForAStrip x = Gardens.untouched();
        S.due("none is wet", x.drain(30, 0), -1);
        S.due("as now", x.drain(1, 1), 228);
        x.set(4, 5, 1);
        S.due("the last", x.drain(1, 0), 5);
        S.due("well then", x.drain(1, 1), 228);
        x.set(4, 0, 1);
        S.due("of like ones the first", x.drain(1, 0), 0);
        x.set(3, 0, 23);
        S.due("11 more are less than 12", x.drain(1, 0), 5);
        x.set(3, 5, 13);
        S.due("1 more is less than 11", x.drain(1, 0), 0);
        x.set(3, 0, 13);
        S.due("of like ones, 1 more, the first", x.drain(1, 0), 0);
        x.set(3, 0, 12);
        x.set(3, 5, 12);
        S.due("not more", x.drain(1, 0), -1);
        S.due("as now", x.drain(1, 1), 4 * 38);
        S.due("behind 0 not more", x.drain(0, 0), -1);
        S.due("as now", x.drain(0, 1), 224);
    }

    /** Six people on six strips, and one who waits: the one at a place is IDLE, or none. */
    private static FourYearsForAStrip idle(int place, int waiting) {
        FourYearsForAStrip x = Check.ruled("digs 9;weeds 0;stays 99;");
        for (int one = 0; one < 6; one++) {
            x.tenant(one == place ? 2 : 0, 0);
            x.give(one, one);
        }
        x.tenant(waiting, 0);
        return x;
    }

    private static void strikeTerm() {
        S.of(0, "STRIKE (n): who, were one GONE now, would make all TENDED WELL most, if more than now; of like ones the"
            + " first; NONE.");
        S.due("the first", idle(0, 0).strike(2, 0), 0);
        S.due("the sixth", idle(5, 0).strike(2, 0), 5);
        S.due("well then", idle(5, 0).strike(2, 1), 300 + 5 * 18 + 9);
        S.due("like an IDLE: not more", idle(5, 2).strike(2, 0), -1);
        S.due("as now", idle(5, 2).strike(2, 1), 300 + 5 * 18);
        S.due("a TENANT for a TENANT: not more", idle(-1, 0).strike(2, 0), -1);
        S.due("behind 0 not more", idle(0, 0).strike(0, 0), -1);
        S.due("as now", idle(0, 0).strike(0, 1), 300);
        S.due("nobody", Gardens.untouched().strike(30, 0), -1);
        // strip 0 is free: an IDLE one, the eighth, waits for it ahead of two KEEN ones
        FourYearsForAStrip x = Check.ruled("digs 9;weeds 0;stays 99;", 1, 0, FENCER, 0, FENCER, 0, FENCER, 0, FENCER, 0,
            FENCER, 0, 1, 0, 2, 0);
        for (int one = 1; one < 6; one++) {
            x.give(one, one);
        }
        x.set(8, 7, 9);
        S.due("the eighth, waiting ahead of others", x.strike(2, 0), 7);
    }

    private static void changeTerm() {
        S.of(0, "CHANGE (n): 10 times the one, and the other (the lesser first; both have a STRIP), by whose changing"
            + " STRIPS (HELD, WARNED go with them) all would be TENDED WELL most, if more; of like ones the first;"
            + " NONE.");
        FourYearsForAStrip x = Check.ruled("digs 9;weeds 0;stays 99;", 0, 0, 1, 0);
        x.give(0, 0);
        x.give(1, 1);
        S.due("like strips: not more", x.change(1, 0), -1);
        S.due("as now", x.change(1, 1), 327);
        x.set(3, 1, 99);
        S.due("0 and 1", x.change(1, 0), 1);
        S.due("well then", x.change(1, 1), 68 + 99 + 4 * 50);
        S.due("behind 0 not more", x.change(0, 0), -1);
        S.due("nobody", Gardens.untouched().change(30, 0), -1);
        FourYearsForAStrip one = Check.ruled("digs 9;weeds 0;stays 99;", 1, 0, 0, 0, 0, 0);
        one.give(0, 0);
        one.set(3, 0, 99);
        one.strikeOff(2);
        S.due("one alone, one waiting, one gone", one.change(1, 0), -1);
        lastTwoChange();
        firstOfLikeOnes();
    }

    private static void lastTwoChange() {
        FourYearsForAStrip x = Check.ruled("digs 9;weeds 0;stays 99;", 0, 0, 0, 0, 0, 0, 0, 0, 0, 0, 0, 0, 0, 0, 1, 0);
        x.give(6, 4);
        x.give(7, 5);
        x.set(3, 5, 99);
        S.due("6 and 7", x.change(1, 0), 67);
        x.set(3, 5, 50);
        x.set(3, 4, 99);
        S.due("not more, the other way about", x.change(1, 0), -1);
    }

    /** Three KEEN ones at 99 and one TENANT at 50: by any pair with it as much. */
    private static void firstOfLikeOnes() {
        FourYearsForAStrip x = Check.ruled("digs 9;weeds 0;stays 99;", 1, 0, 1, 0, 0, 0, 1, 0);
        for (int one = 0; one < 4; one++) {
            x.give(one, one);
            x.set(3, one, one == 2 ? 50 : 99);
        }
        S.due("0 and 2 ahead of 1 and 2, 2 and 3", x.change(1, 0), 2);
        x.strikeOff(0);
        S.due("1 and 2 ahead of 2 and 3", x.change(1, 0), 12);
        x.strikeOff(1);
        S.due("2 and 3", x.change(1, 0), 23);
        x.strikeOff(3);
        S.due("none", x.change(1, 0), -1);
    }

    // ---- calls

    private static void year() {
        S.of(11, "A YEAR, truly: how many are GONE. STATE: YEAR is 999.");
        S.refused("in the year 999", Gardens::late, FourYearsForAStrip::year, -3);
        FourYearsForAStrip x = Gardens.late();
        x.set(0, 0, 998);
        S.due("in the year 998", x.year(), 1);
        S.due("is 999", x.count(4), 999);
        S.due("and no more", x.year(), -3);
        x.set(0, 0, 0);
        S.due("from 0 again", x.year(), 1);
        S.due("nobody is gone", Gardens.untouched().year(), 0);
        FourYearsForAStrip all = Check.with(0, 0, 0, 0, 0, 0, 0, 0, 0, 0, 0, 0, 0, 0, 0, 0);
        for (int one = 0; one < 8; one++) {
            all.strikeOff(one);
        }
        S.due("all are gone", all.year(), 8);
    }

    private static void run() {
        S.of(12, "n YEARS: STRIPS nobody has (what 0), that are less TENDED than LIMIT (1), who are GONE (2), who WAIT"
            + " (3), TENDED WELL (4)");
        S.within("run(n, 0)", Gardens::some, 0, 30, (x, v) -> x.run(v, 0), -2);
        S.within("run(3, what)", Gardens::some, 0, 4, (x, v) -> x.run(3, v), -2);
        FourYearsForAStrip x = Gardens.untouched();
        S.due("nobody has any", x.run(0, 0), 6);
        x.set(1, 0, 50);
        S.due("50 isn't less than 50", x.run(0, 1), 0);
        x.set(1, 0, 51);
        S.due("50 is less than 51", x.run(0, 1), 6);
        x.set(1, 0, 0);
        S.due("nothing is less than 0", x.run(30, 1), 0);
        FourYearsForAStrip all = Check.with(0, 0, 0, 0, 0, 0, 0, 0, 0, 0, 0, 0, 0, 0, 0, 0);
        S.due("all wait", all.run(0, 3), 8);
        S.due("two wait", all.run(1, 3), 2);
        S.due("all strips have somebody", all.run(1, 0), 0);
        S.of(12, "how well STRIP what less 10 is TENDED (10 ..), who has STRIP what less 20 (20 ..; NONE), the STRIP that"
            + " what less 30 has (30 ..; as of told(10)). BAD.");
        S.within("run(1, 10 ..)", Gardens::some, 10, 15, (g, v) -> g.run(1, v), -2);
        S.within("run(1, 20 ..)", Gardens::some, 20, 25, (g, v) -> g.run(1, v), -2);
        S.within("run(1, 30 ..)", Gardens::some, 30, 35, (g, v) -> g.run(1, v), -2);
        S.within("run(1, 30 ..), eight", Gardens::crowded, 30, 37, (g, v) -> g.run(1, v), -2);
        S.within("run(n, 10)", Gardens::some, 0, 30, (g, v) -> g.run(v, 10), -2);
        S.within("run(n, 20)", Gardens::some, 0, 30, (g, v) -> g.run(v, 20), -2);
        S.within("run(n, 30)", Gardens::some, 0, 30, (g, v) -> g.run(v, 30), -2);
        S.refused("what 30 of nobody", Gardens::untouched, g -> g.run(0, 30), -2);
        S.due("who has strip 5", Gardens.some().run(0, 25), -1);
        S.due("who has strip 1", Gardens.some().run(0, 21), 1);
        S.due("one gone", Gardens.some().run(0, 34), -5);
        S.due("one waiting", Gardens.some().run(0, 35), -1);
        S.due("one who has strip 1", Gardens.some().run(0, 31), 1);
        for (int what : new int[] {5, 6, 7, 8, 9, 16, 17, 18, 19, 26, 27, 28, 29, 38, 39, 40, 41, 45, 100, 130}) {
            S.refused("what " + what, Gardens::crowded, g -> g.run(1, what), -2);
        }
    }

    private static void takes() {
        S.of(13, "How many YEARS it takes one. BAD; NONE.");
        S.within("takes(one)", Gardens::some, 0, 5, (x, v) -> x.takes(v), -2);
        S.within("takes(one), eight", Gardens::crowded, 0, 7, (x, v) -> x.takes(v), -2);
        S.refused("NONE", () -> one(68), x -> x.takes(6), -1);
        S.due("30", one(69).takes(6), 30);
        S.due("also behind the year 999", Gardens.late().takes(2), 1);
    }

    private static void strict() {
        S.of(14, "STRICT. BAD.");
        S.within("strict(n, 0)", Gardens::some, 0, 30, (x, v) -> x.strict(v, 0), -2);
        S.within("strict(0, what)", Gardens::some, 0, 1, (x, v) -> x.strict(0, v), -2);
    }

    private static void outOfTurn() {
        S.of(15, "OUT OF TURN. BAD; STATE: somebody has the STRIP.");
        S.within("outOfTurn(strip, 1, 0)", Gardens::some, 0, 5, (x, v) -> x.outOfTurn(v, 1, 0), -2);
        S.within("outOfTurn(2, n, 0)", Gardens::some, 0, 30, (x, v) -> x.outOfTurn(2, v, 0), -2);
        S.within("outOfTurn(2, 1, what)", Gardens::some, 0, 1, (x, v) -> x.outOfTurn(2, 1, v), -2);
        for (int what = 0; what < 2; what++) {
            int w = what;
            S.refused("strip 0, which one has", Gardens::some, x -> x.outOfTurn(0, 1, w), -3);
            S.refused("strip 1, which one has", Gardens::some, x -> x.outOfTurn(1, 30, w), -3);
            S.refused("BAD first: n", Gardens::some, x -> x.outOfTurn(1, 31, w), -2);
        }
        S.refused("BAD first: what", Gardens::some, x -> x.outOfTurn(1, 1, 2), -2);
        S.holds("a strip one had is nobody's", Gardens.some().outOfTurn(2, 1, 0) >= 0);
    }

    private static void drain() {
        S.of(16, "DRAIN. BAD.");
        S.within("drain(n, 0)", Gardens::some, 0, 30, (x, v) -> x.drain(v, 0), -2);
        S.within("drain(1, what)", Gardens::some, 0, 1, (x, v) -> x.drain(1, v), -2);
    }

    private static void strike() {
        S.of(17, "STRIKE. BAD.");
        S.within("strike(n, 0)", Gardens::some, 0, 30, (x, v) -> x.strike(v, 0), -2);
        S.within("strike(1, what)", Gardens::some, 0, 1, (x, v) -> x.strike(1, v), -2);
    }

    private static void change() {
        S.of(18, "CHANGE. BAD.");
        S.within("change(n, 0)", Gardens::some, 0, 30, (x, v) -> x.change(v, 0), -2);
        S.within("change(1, what)", Gardens::some, 0, 1, (x, v) -> x.change(1, v), -2);
    }
}
