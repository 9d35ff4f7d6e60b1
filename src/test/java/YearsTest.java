/** Promises 11 to 13: year, run, takes. */
public final class YearsTest {
    private static final Check CHECK = new Check();

    public static void main(String[] args) {
        weedsGrow();
        peopleTend();
        bothAreToldThen();
        warnings();
        losing();
        leaving();
        waiting();
        handingOut();
        theYear();
        run();
        runRefuses();
        runIsInThought();
        takes();
        CHECK.end();
    }

    private static void weedsGrow() {
        FourYearsForAStrip x = new FourYearsForAStrip();
        x.set(4, 1, 1);
        x.set(3, 2, 11);
        x.set(3, 3, 12);
        x.set(3, 4, 23);
        x.set(4, 4, 1);
        x.set(3, 5, 99);
        int[] due = {38, 26, 0, 0, 0, 87};
        CHECK.due("11: nobody is gone", x.year(), 0);
        for (int strip = 0; strip < 6; strip++) {
            CHECK.due("11: tended " + strip, x.told(strip, 3), due[strip]);
        }
    }

    /** How well strip 1 is tended behind a year, if one with that kind, number, held, warned has it. */
    private static int tended(int kind, int number, int held, int warned) {
        FourYearsForAStrip x = Check.with(kind, number);
        x.give(0, 1);
        x.set(6, 0, held);
        x.set(7, 0, warned);
        x.year();
        return x.told(1, 3);
    }

    private static void peopleTend() {
        CHECK.due("11: TENANT", tended(0, 3, 0, 0), 47);
        CHECK.due("11: KEEN", tended(1, 3, 0, 0), 56);
        CHECK.due("11: IDLE", tended(2, 3, 0, 0), 38);
        CHECK.due("11: IDLE, warned", tended(2, 3, 0, 1), 47);
        CHECK.due("11: PENSIONER", tended(3, 3, 11, 0), 54);
        CHECK.due("11: PENSIONER, old", tended(3, 3, 100, 0), 38);
        CHECK.due("11: HEIR", tended(4, 3, 0, 0), 41);
        CHECK.due("11: HEIR, warned", tended(4, 3, 0, 1), 50);
        CHECK.due("11: FENCER", tended(5, 3, 0, 0), 44);
        FourYearsForAStrip x = Check.with(1, 0, 1, 0);
        x.give(0, 0);
        x.give(1, 1);
        x.set(3, 0, 93);
        x.set(3, 1, 94);
        x.year();
        CHECK.due("11: 99", x.told(0, 3), 99);
        CHECK.due("11: 99 at most", x.told(1, 3), 99);
    }

    private static void bothAreToldThen() {
        FourYearsForAStrip x = Check.ruled("digs level; weeds level-20; stays 99;", 0, 0);
        x.give(0, 0);
        x.year();
        // weeds: 50 - 20 leave 20; digs, told then, are 20
        CHECK.due("11: told as it is then", x.told(0, 3), 40);
        CHECK.due("11: of any strip", x.told(1, 3), 20);
        FourYearsForAStrip y = Check.ruled("digs 0; weeds 60; stays 99;");
        y.set(3, 0, 99);
        y.set(3, 1, 99);
        y.set(4, 1, 1);
        y.year();
        CHECK.due("11: weeds", y.told(0, 3), 39);
        CHECK.due("11: twice as much, 0 at least", y.told(1, 3), 0);
    }

    private static void warnings() {
        FourYearsForAStrip x = Check.with(0, 0, 0, 0);
        x.give(0, 0);
        x.give(1, 1);
        x.set(3, 1, 51);
        x.set(1, 0, 48);
        CHECK.due("11: nobody is gone", x.year(), 0);
        CHECK.due("11: 47 is below 48", x.told(0, 7), 1);
        CHECK.due("11: 48 isn't", x.told(1, 7), 0);
        x.set(2, 0, 9);
        x.set(7, 0, 7);
        x.year();
        CHECK.due("11: warned once more", x.told(0, 7), 8);
        x.year();
        CHECK.due("11: the ninth letter", x.told(0, 10), -5);
    }

    private static void losing() {
        FourYearsForAStrip x = Check.with(0, 0, 0, 0, 0, 0);
        x.give(0, 0);
        x.give(1, 1);
        x.give(2, 2);
        x.set(7, 0, 2);
        x.set(7, 1, 1);
        x.set(1, 0, 99);
        CHECK.due("11: one is gone", x.year(), 1);
        CHECK.due("11: by the third letter", x.told(0, 10), -5);
        CHECK.due("11: not by the second", x.told(1, 7), 2);
        CHECK.due("11: held by one warned", x.told(1, 6), 1);
        x.set(1, 0, 0);
        x.set(2, 0, 2);
        CHECK.due("11: all who are gone, with those of other years", x.year(), 2);
        CHECK.due("11: warned so often, though not now", x.told(1, 10), -5);
        CHECK.due("11: once is less", x.told(2, 10), 2);
        x.strikeOff(2);
        CHECK.due("11: with those struck off", x.year(), 3);
    }

    private static void leaving() {
        FourYearsForAStrip x = Check.with(0, 0, 0, 0);
        x.give(0, 0);
        x.give(1, 1);
        x.set(6, 0, 18);
        x.set(6, 1, 19);
        x.year();
        CHECK.due("11: held 19", x.told(0, 6), 19);
        CHECK.due("11: held 20: gone", x.told(1, 10), -5);
        FourYearsForAStrip y = Check.with(5, 0);
        y.give(0, 0);
        y.set(6, 0, 998);
        y.year();
        CHECK.due("11: held 999", y.told(0, 6), 999);
        y.year();
        CHECK.due("11: held 999 at most", y.told(0, 6), 999);
        stays("held+1", 0, 0, true);
        stays("held", 0, 0, false);
        stays("warned+1", 0, 60, true);
        stays("warned+1", 0, 0, false);
        stays("year-3", 1, 0, false);
        stays("year-2", 1, 0, true);
        stays("level-45", 0, 0, true);
        stays("level-46", 0, 0, false);
    }

    /** Whether a TENANT is still there behind the year 5, by what stays tells at its end. */
    private static void stays(String e, int held, int limit, boolean due) {
        FourYearsForAStrip x = Check.ruled("digs 9; weeds 12; stays " + e + ";", 0, 0);
        x.give(0, 0);
        x.set(0, 0, 5);
        x.set(1, 0, limit);
        x.set(6, 0, held);
        x.year();
        CHECK.due("11: stays " + e, x.told(0, 10), due ? 0 : -5);
    }

    private static void waiting() {
        FourYearsForAStrip x = Check.with(1, 0, 1, 0, 1, 0);
        for (int strip = 0; strip < 6; strip++) {
            x.set(4, strip, 1);
        }
        x.set(8, 0, 998);
        x.set(8, 2, 4);
        x.strikeOff(1);
        x.year();
        CHECK.due("11: waits 999", x.told(0, 8), 999);
        CHECK.due("11: waits 1 more", x.told(2, 8), 5);
        x.year();
        CHECK.due("11: waits 999 at most", x.told(0, 8), 999);
        CHECK.due("11: is gone as before", x.told(1, 10), -5);
    }

    private static void handingOut() {
        // KEEN, FENCER 2, FENCER 3, HEIR, PENSIONER, IDLE; strips 0 .. 2 are wet, 3 is held, 4 dry, 5 is lost now
        FourYearsForAStrip x = Check.with(1, 0, 5, 2, 5, 3, 4, 0, 3, 0, 2, 0, 5, 0, 0, 0);
        x.give(6, 3);
        x.give(7, 5);
        x.set(6, 7, 19);
        for (int strip = 0; strip < 3; strip++) {
            x.set(4, strip, 1);
        }
        x.set(8, 4, 6);
        x.set(8, 1, 5);
        x.set(8, 3, 2);
        x.set(8, 5, 2);
        CHECK.due("11: one is gone", x.year(), 1);
        int[] due = {3, 5, 2, 6, 4, 1};
        for (int strip = 0; strip < 6; strip++) {
            CHECK.due("11: who has " + strip, x.told(strip, 11), due[strip]);
        }
        CHECK.due("11: the KEEN waits", x.told(0, 8), 1);
        CHECK.due("11: held 0", x.told(3, 6), 0);
        CHECK.due("11: warned 0", x.told(3, 7), 0);
        CHECK.due("11: one who had it before", x.told(6, 6), 1);
        FourYearsForAStrip y = Check.with(0, 0, 2, 0);
        y.year();
        CHECK.due("11: of like ones by numbers", y.told(0, 11), 0);
        CHECK.due("11: then the next", y.told(1, 11), 1);
    }

    private static void theYear() {
        FourYearsForAStrip x = Check.with(0, 0);
        x.year();
        CHECK.due("11: year", x.told(0, 0), 1);
        x.set(0, 0, 998);
        CHECK.due("11: the last", x.year(), 0);
        CHECK.due("11: year", x.count(4), 999);
        int level = x.told(3, 3);
        CHECK.due("11: none more", x.year(), -3);
        CHECK.due("11: nothing grew", x.told(3, 3), level);
        CHECK.due("11: year", x.count(4), 999);
        CHECK.due("12: years in thought go on", x.run(1, 13), level - 12);
    }

    private static void run() {
        FourYearsForAStrip x = Check.with(0, 0, 2, 0, 1, 0);
        x.give(0, 0);
        x.give(1, 1);
        x.set(4, 5, 1);
        x.set(6, 0, 18);
        // 1: 47 38 38 38 38 26; the KEEN comes to 2.   2: 44 26 44 26 26 2; the TENANT leaves
        CHECK.due("12: nobody has, now", x.run(0, 0), 4);
        CHECK.due("12: below, now", x.run(0, 1), 0);
        CHECK.due("12: gone, now", x.run(0, 2), 0);
        CHECK.due("12: wait, now", x.run(0, 3), 1);
        CHECK.due("12: well, now", x.run(0, 4), 300);
        CHECK.due("12: nobody has, 1", x.run(1, 0), 3);
        CHECK.due("12: below, 1", x.run(1, 1), 1);
        CHECK.due("12: gone, 1", x.run(1, 2), 0);
        CHECK.due("12: wait, 1", x.run(1, 3), 0);
        CHECK.due("12: well, 1", x.run(1, 4), 225);
        CHECK.due("12: nobody has, 2", x.run(2, 0), 4);
        CHECK.due("12: below, 2", x.run(2, 1), 4);
        CHECK.due("12: gone, 2", x.run(2, 2), 1);
        CHECK.due("12: well, 2", x.run(2, 4), 168);
        int[] tended = {44, 26, 44, 26, 26, 2};
        int[] holder = {-1, 1, 2, -1, -1, -1};
        for (int strip = 0; strip < 6; strip++) {
            CHECK.due("12: tended, 2, of " + strip, x.run(2, 10 + strip), tended[strip]);
            CHECK.due("12: who has it, 2: " + strip, x.run(2, 20 + strip), holder[strip]);
        }
        CHECK.due("12: strip of 0, now", x.run(0, 30), 0);
        CHECK.due("12: strip of 0, 2", x.run(2, 30), -5);
        CHECK.due("12: strip of 1, 2", x.run(2, 31), 1);
        CHECK.due("12: strip of 2, now", x.run(0, 32), -1);
        CHECK.due("12: strip of 2, 2", x.run(2, 32), 2);
        x.set(1, 0, 27);
        CHECK.due("12: 26 is below 27", x.run(2, 1), 4);
        x.set(1, 0, 26);
        CHECK.due("12: 26 isn't below 26", x.run(2, 1), 1);
        x.strikeOff(2);
        CHECK.due("12: gone before, too", x.run(2, 2), 2);
    }

    private static void runRefuses() {
        FourYearsForAStrip x = Check.with(0, 0, 2, 0);
        CHECK.due("12: n -1", x.run(-1, 0), -2);
        CHECK.due("12: n 31", x.run(31, 0), -2);
        CHECK.due("12: n 30", x.run(30, 4), 0);
        for (int what : new int[] {-1, 5, 9, 16, 19, 26, 29, 32, 37, 38, 40, 100, Integer.MIN_VALUE, Integer.MAX_VALUE}) {
            CHECK.due("12: what " + what, x.run(0, what), -2);
        }
        CHECK.due("12: what 31", x.run(0, 31), -1);
    }

    private static void runIsInThought() {
        FourYearsForAStrip x = Check.with(0, 0, 2, 0);
        x.give(0, 0);
        x.run(30, 4);
        CHECK.due("12: year", x.count(4), 0);
        CHECK.due("12: tended", x.told(0, 3), 50);
        CHECK.due("12: held", x.told(0, 6), 0);
        CHECK.due("12: waits", x.told(1, 10), -1);
        CHECK.due("12: gone", x.count(3), 0);
        FourYearsForAStrip y = Check.ruled("digs 0; weeds year-995; stays 0;");
        y.set(0, 0, 997);
        // 2, 3, 4, 5, 6: in thought a year is 1 more also behind 999
        CHECK.due("12: behind 999", y.run(5, 10), 30);
    }

    /** Six strips are held; that of the first holder will be free when it has been held for 99 years. */
    private static int takenBy(int held) {
        FourYearsForAStrip x = Check.ruled("digs 20; weeds 0; stays 99;", 0, 0, 5, 0, 5, 0, 5, 0, 5, 0, 5, 0, 0, 0, 0, 0);
        for (int one = 0; one < 6; one++) {
            x.give(one, one);
        }
        x.set(6, 0, held);
        x.set(8, 7, 1);
        CHECK.due("13: the first doesn't get it", x.takes(6), -1);
        return x.takes(7);
    }

    private static void takes() {
        CHECK.due("13: 1", takenBy(98), 1);
        CHECK.due("13: 2", takenBy(97), 2);
        CHECK.due("13: 29", takenBy(70), 29);
        CHECK.due("13: 30", takenBy(69), 30);
        CHECK.due("13: more than 30", takenBy(68), -1);
        FourYearsForAStrip x = Check.with(0, 0, 0, 0, 0, 0);
        x.give(0, 0);
        x.strikeOff(1);
        CHECK.due("13: has one", x.takes(0), 0);
        CHECK.due("13: is gone", x.takes(1), 0);
        CHECK.due("13: gets one", x.takes(2), 1);
        CHECK.due("13: nobody -1", x.takes(-1), -2);
        CHECK.due("13: nobody 3", x.takes(3), -2);
        CHECK.due("13: in thought", x.told(2, 10), -1);
    }
}
