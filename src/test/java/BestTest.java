/** Promises 14 to 18: strict, outOfTurn, drain, strike, change. */
public final class BestTest {
    private static final Check CHECK = new Check();

    public static void main(String[] args) {
        strict();
        outOfTurn();
        outOfTurnRefuses();
        drain();
        strike();
        change();
        whatGoesWithThem();
        refusals();
        CHECK.end();
    }

    private static void strict() {
        FourYearsForAStrip x = Check.with(2, 0);
        x.give(0, 0);
        // the IDLE is at 38 behind one year; warned then (by 39 or more), it is 35 behind two, else 26
        CHECK.due("14: behind 2", x.strict(2, 0), 39);
        CHECK.due("14: well then", x.strict(2, 1), 165);
        CHECK.due("14: behind 1 it is all one", x.strict(1, 0), 0);
        CHECK.due("14: well then", x.strict(1, 1), 228);
        CHECK.due("14: behind 0", x.strict(0, 0), 0);
        CHECK.due("14: well now", x.strict(0, 1), 300);
        CHECK.due("14: limit is as it was", x.told(0, 1), 30);
        CHECK.due("14: n 30", x.strict(30, 1), 0);
        FourYearsForAStrip y = Check.ruled("digs 99; weeds 0; stays 99;", 2, 0);
        y.give(0, 0);
        y.set(3, 0, 98);
        CHECK.due("14: 99 is one, too", y.strict(2, 0), 99);
        CHECK.due("14: well then", y.strict(2, 1), 349);
    }

    private static void outOfTurn() {
        FourYearsForAStrip x = Check.with(2, 0, 0, 0, 1, 0, 1, 0, 0, 0);
        x.give(4, 5);
        CHECK.due("15: a KEEN", x.outOfTurn(0, 1, 0), 2);
        CHECK.due("15: well then", x.outOfTurn(0, 1, 1), 47 + 56 + 4 * 38);
        CHECK.due("15: behind 0 the first", x.outOfTurn(0, 0, 0), 0);
        CHECK.due("15: well now", x.outOfTurn(0, 0, 1), 300);
        CHECK.due("15: in thought", x.count(2), 4);
        x.strikeOff(2);
        CHECK.due("15: another KEEN", x.outOfTurn(0, 1, 0), 3);
        FourYearsForAStrip y = Check.with(1, 0);
        y.set(4, 5, 1);
        y.set(1, 0, 0);
        // on the wet one the KEEN ends at 18; as now, on strip 0 from the next year on, at 92
        CHECK.due("15: as now", y.run(10, 4), 92);
        CHECK.due("15: though it is worse, and wet", y.outOfTurn(5, 10, 0), 0);
        CHECK.due("15: well then", y.outOfTurn(5, 10, 1), 18);
        FourYearsForAStrip z = Check.with(0, 0, 0, 0);
        z.give(0, 0);
        z.strikeOff(1);
        CHECK.due("15: nobody waits", z.outOfTurn(3, 2, 0), -1);
        CHECK.due("15: as now", z.outOfTurn(3, 2, 1), 44 + 5 * 26);
        FourYearsForAStrip stale = Check.ruled("digs 5 + warned + held; weeds 0; stays 99;", 0, 0);
        CHECK.due("15: held 0, warned 0", stale.outOfTurn(2, 1, 1), 305);
    }

    private static void outOfTurnRefuses() {
        FourYearsForAStrip x = Check.with(2, 0, 0, 0);
        x.give(0, 4);
        CHECK.due("15: strip -1", x.outOfTurn(-1, 0, 0), -2);
        CHECK.due("15: strip 6", x.outOfTurn(6, 0, 0), -2);
        CHECK.due("15: n -1", x.outOfTurn(0, -1, 0), -2);
        CHECK.due("15: n 31", x.outOfTurn(0, 31, 0), -2);
        CHECK.due("15: what -1", x.outOfTurn(0, 0, -1), -2);
        CHECK.due("15: what 2", x.outOfTurn(0, 0, 2), -2);
        CHECK.due("15: somebody has it", x.outOfTurn(4, 0, 0), -3);
        CHECK.due("15: somebody has it, what 1", x.outOfTurn(4, 0, 1), -3);
        CHECK.due("15: BAD is told first", x.outOfTurn(4, 31, 0), -2);
        CHECK.due("15: BAD is told first", x.outOfTurn(4, 0, 2), -2);
    }

    private static void drain() {
        FourYearsForAStrip x = new FourYearsForAStrip();
        CHECK.due("16: none is wet", x.drain(1, 0), -1);
        CHECK.due("16: as now", x.drain(1, 1), 228);
        x.set(4, 3, 1);
        x.set(4, 1, 1);
        CHECK.due("16: of like ones the first", x.drain(1, 0), 1);
        CHECK.due("16: well then", x.drain(1, 1), 216);
        x.set(3, 1, 20);
        CHECK.due("16: the other", x.drain(1, 0), 3);
        CHECK.due("16: well then", x.drain(1, 1), 4 * 38 + 38 + 0);
        CHECK.due("16: not more behind 0", x.drain(0, 0), -1);
        CHECK.due("16: as now", x.drain(0, 1), 270);
        x.set(3, 3, 12);
        CHECK.due("16: more by 8", x.drain(1, 0), 1);
        x.set(3, 1, 11);
        CHECK.due("16: not more", x.drain(1, 0), -1);
        CHECK.due("16: as now", x.drain(1, 1), 152);
        CHECK.due("16: still wet", x.told(1, 4), 1);
        x.set(4, 0, 1);
        CHECK.due("16: strip 0 is one, too", x.drain(1, 0), 0);
        x.set(4, 0, 0);
        x.set(4, 5, 1);
        CHECK.due("16: strip 5 is one, too", x.drain(1, 0), 5);
    }

    private static void strike() {
        FourYearsForAStrip x = Check.with(2, 0, 0, 0, 0, 0, 0, 0, 0, 0, 0, 0, 1, 0);
        for (int one = 0; one < 6; one++) {
            x.give(one, one);
        }
        CHECK.due("17: the IDLE", x.strike(2, 0), 0);
        CHECK.due("17: well then", x.strike(2, 1), 264);
        CHECK.due("17: not more behind 1", x.strike(1, 0), -1);
        CHECK.due("17: as now", x.strike(1, 1), 38 + 5 * 47);
        CHECK.due("17: in thought", x.count(3), 0);
        // one IDLE holds a strip that is let go; of two who wait the first is worse
        FourYearsForAStrip y = Check.with(2, 0, 2, 0, 1, 0);
        for (int strip = 1; strip < 6; strip++) {
            y.set(4, strip, 1);
        }
        y.give(0, 0);
        y.set(6, 0, 19);
        y.set(8, 1, 3);
        // the first leaves now; the second would get strip 0; were it gone, the KEEN would
        CHECK.due("17: one who waits", y.strike(2, 0), 1);
        CHECK.due("17: well then", y.strike(2, 1), 38 + 6 + 5 * 2);
        FourYearsForAStrip z = Check.with(2, 0, 2, 0, 0, 0, 0, 0, 0, 0, 0, 0, 1, 0);
        for (int one = 0; one < 6; one++) {
            z.give(one, one);
        }
        CHECK.due("17: of like ones the first", z.strike(2, 0), 0);
        z.strikeOff(0);
        CHECK.due("17: one gone is as now", z.strike(0, 0), -1);
    }

    private static void change() {
        FourYearsForAStrip x = Check.with(0, 0, 1, 0, 0, 0);
        x.give(0, 0);
        x.give(1, 1);
        x.set(3, 1, 99);
        // as now 47 + 99; changed 56 + 96
        CHECK.due("18: 0 and 1", x.change(1, 0), 1);
        CHECK.due("18: well then", x.change(1, 1), 152 + 4 * 38);
        CHECK.due("18: not more behind 0", x.change(0, 0), -1);
        CHECK.due("18: as now", x.change(0, 1), 349);
        x.give(2, 2);
        CHECK.due("18: of like ones the first", x.change(1, 0), 1);
        x.set(3, 2, 30);
        CHECK.due("18: of like ones the first", x.change(1, 0), 1);
        x.set(3, 0, 97);
        CHECK.due("18: 1 and 2", x.change(1, 0), 12);
        CHECK.due("18: well then", x.change(1, 1), 94 + 96 + 36 + 3 * 38);
        CHECK.due("18: in thought", x.told(1, 10), 1);
        FourYearsForAStrip y = Check.with(0, 0, 1, 0, 1, 0);
        y.give(1, 1);
        y.set(3, 1, 99);
        CHECK.due("18: the others have none", y.change(1, 0), -1);
        CHECK.due("18: as now", y.change(1, 1), 99 + 5 * 38);
    }

    private static void whatGoesWithThem() {
        // a KEEN on strip 1 and an IDLE, warned, on strip 5: changed, 50 and 5 more, for it is still warned
        FourYearsForAStrip x = Check.ruled("digs strip * 5; weeds 0; stays 99;", 1, 0, 2, 0);
        x.give(0, 1);
        x.give(1, 5);
        x.set(7, 1, 1);
        x.set(3, 1, 0);
        x.set(3, 5, 0);
        CHECK.due("18: WARNED", x.change(1, 0), 1);
        CHECK.due("18: WARNED", x.change(1, 1), 255);
        // a PENSIONER who has held strip 1 for 40 years: changed, 40 and 5 more
        FourYearsForAStrip y = Check.ruled("digs strip * 5; weeds 0; stays 99;", 3, 0, 0, 0);
        y.give(0, 1);
        y.give(1, 5);
        y.set(6, 0, 40);
        y.set(3, 1, 0);
        y.set(3, 5, 0);
        CHECK.due("18: HELD", y.change(1, 0), 1);
        CHECK.due("18: HELD", y.change(1, 1), 245);
    }

    private static void refusals() {
        FourYearsForAStrip x = Check.with(0, 0);
        int[][] bad = {{-1, 0}, {31, 0}, {0, -1}, {0, 2}, {Integer.MAX_VALUE, 0}, {0, Integer.MIN_VALUE}};
        for (int[] b : bad) {
            CHECK.due("14: strict " + b[0] + ", " + b[1], x.strict(b[0], b[1]), -2);
            CHECK.due("16: drain " + b[0] + ", " + b[1], x.drain(b[0], b[1]), -2);
            CHECK.due("17: strike " + b[0] + ", " + b[1], x.strike(b[0], b[1]), -2);
            CHECK.due("18: change " + b[0] + ", " + b[1], x.change(b[0], b[1]), -2);
        }
        CHECK.due("16: n 30", x.drain(30, 0), -1);
        CHECK.due("17: n 30", x.strike(30, 0), -1);
        CHECK.due("18: n 30", x.change(30, 0), -1);
    }
}
