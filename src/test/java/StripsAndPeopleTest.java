/** Promises 1 to 7: a new object, set, tenant, told, give, strikeOff, list. */
public final class StripsAndPeopleTest {
    private static final Check CHECK = new Check();

    public static void main(String[] args) {
        newObject();
        setTakesItsRanges();
        setChangesNothingElse();
        setRefuses();
        tenantComes();
        toldOfAll();
        toldRefuses();
        tendsByKind();
        staysByKind();
        give();
        strikeOff();
        list();
        CHECK.end();
    }

    private static void newObject() {
        FourYearsForAStrip x = new FourYearsForAStrip();
        CHECK.due("1: people", x.count(0), 0);
        CHECK.due("1: who have a strip", x.count(1), 0);
        CHECK.due("1: who wait", x.count(2), 0);
        CHECK.due("1: who are gone", x.count(3), 0);
        CHECK.due("1: year", x.told(0, 0), 0);
        CHECK.due("1: limit", x.told(0, 1), 30);
        CHECK.due("1: letters", x.told(0, 2), 3);
        for (int strip = 0; strip < 6; strip++) {
            CHECK.due("1: tended " + strip, x.told(strip, 3), 50);
            CHECK.due("1: wet " + strip, x.told(strip, 4), 0);
            CHECK.due("1: holder " + strip, x.told(strip, 11), -1);
        }
        CHECK.due("1: texts", x.count(5), 1);
        CHECK.due("1: tape", x.count(6), 0);
        CHECK.due("1: rule", x.count(7), 0);
        for (int sheet = 0; sheet < 4; sheet++) {
            CHECK.due("1: sheet " + sheet, x.cell(sheet, 0, 0), -11);
        }
        CHECK.due("1: image", x.back(), -3);
        CHECK.due("1: list", x.list(0), -1);
    }

    /** Of what: the least and the most, and a value outside on both sides that changes nothing. */
    private static void ranged(FourYearsForAStrip x, int what, int of, int least, int most) {
        String call = "2: set(" + what + ", " + of + ", ";
        int was = x.told(of, what);
        CHECK.due(call + "least)", x.set(what, of, least), was);
        CHECK.due(call + "below)", x.set(what, of, least - 1), -2);
        CHECK.due(call + "MIN)", x.set(what, of, Integer.MIN_VALUE), -2);
        CHECK.due(call + "most)", x.set(what, of, most), least);
        CHECK.due(call + "above)", x.set(what, of, most + 1), -2);
        CHECK.due(call + "MAX)", x.set(what, of, Integer.MAX_VALUE), -2);
        CHECK.due("2: told(" + of + ", " + what + ")", x.told(of, what), most);
    }

    private static void setTakesItsRanges() {
        FourYearsForAStrip x = Check.with(0, 5, 1, 6);
        x.give(0, 2);
        ranged(x, 0, 77, 0, 999);
        ranged(x, 1, -5, 0, 99);
        ranged(x, 2, 9999, 1, 9);
        for (int strip = 0; strip < 6; strip++) {
            ranged(x, 3, strip, 0, 99);
            ranged(x, 4, strip, 0, 1);
        }
        ranged(x, 5, 0, 0, 9);
        ranged(x, 5, 1, 0, 9);
        ranged(x, 6, 0, 0, 999);
        ranged(x, 7, 0, 0, 9);
        ranged(x, 8, 1, 0, 999);
    }

    private static void setChangesNothingElse() {
        FourYearsForAStrip x = Check.with(0, 5, 1, 6);
        x.give(0, 2);
        int[] of = {0, 0, 0, 2, 2, 0, 0, 0, 1};
        int[] due = {0, 30, 3, 50, 0, 5, 0, 0, 0};
        for (int what = 0; what < 9; what++) {
            CHECK.due("2: set " + what, x.set(what, of[what], 1), due[what]);
            due[what] = 1;
            for (int told = 0; told < 9; told++) {
                CHECK.due("2: told " + told + " behind set " + what, x.told(of[told], told), due[told]);
            }
        }
    }

    private static void setRefuses() {
        FourYearsForAStrip x = Check.with(0, 5, 1, 6, 2, 7);
        x.give(0, 2);
        x.strikeOff(2);
        CHECK.due("2: what -1", x.set(-1, 0, 0), -2);
        CHECK.due("2: what 9", x.set(9, 0, 0), -2);
        CHECK.due("2: what 10", x.set(10, 0, 0), -2);
        for (int what = 3; what <= 4; what++) {
            CHECK.due("2: strip -1", x.set(what, -1, 1), -2);
            CHECK.due("2: strip 6", x.set(what, 6, 1), -2);
        }
        for (int what = 5; what <= 8; what++) {
            CHECK.due("2: nobody -1", x.set(what, -1, 1), -2);
            CHECK.due("2: nobody 3", x.set(what, 3, 1), -2);
            CHECK.due("2: nobody 8", x.set(what, 8, 1), -2);
        }
        CHECK.due("2: number of one gone", x.set(5, 2, 1), 7);
        CHECK.due("2: held of one waiting", x.set(6, 1, 1), -2);
        CHECK.due("2: held of one gone", x.set(6, 2, 1), -2);
        CHECK.due("2: warned of one waiting", x.set(7, 1, 1), -2);
        CHECK.due("2: warned of one gone", x.set(7, 2, 1), -2);
        CHECK.due("2: waits of one who has a strip", x.set(8, 0, 1), -2);
        CHECK.due("2: waits of one gone", x.set(8, 2, 1), -2);
    }

    private static void tenantComes() {
        FourYearsForAStrip x = new FourYearsForAStrip();
        CHECK.due("3: kind -1", x.tenant(-1, 0), -2);
        CHECK.due("3: kind 6", x.tenant(6, 0), -2);
        CHECK.due("3: number -1", x.tenant(0, -1), -2);
        CHECK.due("3: number 10", x.tenant(0, 10), -2);
        CHECK.due("3: nobody came", x.count(0), 0);
        for (int i = 0; i < 8; i++) {
            CHECK.due("3: tenant " + i, x.tenant(i % 6, 9 - i), i);
            CHECK.due("3: kind of " + i, x.told(i, 9), i % 6);
            CHECK.due("3: number of " + i, x.told(i, 5), 9 - i);
            CHECK.due("3: waits " + i, x.told(i, 10), -1);
            CHECK.due("3: for how long " + i, x.told(i, 8), 0);
        }
        CHECK.due("3: a ninth", x.tenant(0, 0), -4);
        CHECK.due("3: a ninth of no kind", x.tenant(6, 0), -2);
        x.strikeOff(3);
        CHECK.due("3: a ninth, one being gone", x.tenant(0, 0), -4);
        CHECK.due("3: people", x.count(0), 8);
    }

    private static void toldOfAll() {
        FourYearsForAStrip x = Check.with(3, 5, 4, 6, 5, 7);
        x.give(1, 4);
        x.strikeOff(2);
        x.set(6, 1, 21);
        x.set(7, 1, 8);
        x.set(8, 0, 33);
        CHECK.due("4: number", x.told(1, 5), 6);
        CHECK.due("4: held", x.told(1, 6), 21);
        CHECK.due("4: warned", x.told(1, 7), 8);
        CHECK.due("4: waits", x.told(0, 8), 33);
        CHECK.due("4: kind", x.told(0, 9), 3);
        CHECK.due("4: kind of one gone", x.told(2, 9), 5);
        CHECK.due("4: number of one gone", x.told(2, 5), 7);
        CHECK.due("4: strip, waiting", x.told(0, 10), -1);
        CHECK.due("4: strip", x.told(1, 10), 4);
        CHECK.due("4: strip, gone", x.told(2, 10), -5);
        CHECK.due("4: holder of 4", x.told(4, 11), 1);
        CHECK.due("4: holder of 0", x.told(0, 11), -1);
        CHECK.due("4: year, whoever", x.told(-9, 0), 0);
        CHECK.due("4: limit, whoever", x.told(99, 1), 30);
        CHECK.due("4: letters, whoever", x.told(8, 2), 3);
    }

    private static void toldRefuses() {
        FourYearsForAStrip x = Check.with(3, 5, 4, 6, 5, 7);
        x.give(1, 4);
        x.strikeOff(2);
        CHECK.due("4: what -1", x.told(0, -1), -2);
        CHECK.due("4: what 14", x.told(0, 14), -2);
        for (int what : new int[] {3, 4, 11}) {
            CHECK.due("4: strip -1, " + what, x.told(-1, what), -2);
            CHECK.due("4: strip 6, " + what, x.told(6, what), -2);
        }
        for (int what : new int[] {5, 6, 7, 8, 9, 10, 12, 13}) {
            CHECK.due("4: nobody -1, " + what, x.told(-1, what), -2);
            CHECK.due("4: nobody 3, " + what, x.told(3, what), -2);
        }
        for (int what : new int[] {6, 7, 12, 13}) {
            CHECK.due("4: of one waiting, " + what, x.told(0, what), -2);
            CHECK.due("4: of one gone, " + what, x.told(2, what), -2);
        }
        CHECK.due("4: waits, of one who has a strip", x.told(1, 8), -2);
        CHECK.due("4: waits, of one gone", x.told(2, 8), -2);
    }

    /** Two of each kind (but TENANT), by digs 20: tended(kind, number, held, warned). */
    private static int tended(int digs, int kind, int number, int held, int warned) {
        FourYearsForAStrip x = Check.ruled("digs " + digs + "; weeds 0; stays 0;", kind, number);
        x.give(0, 0);
        x.set(6, 0, held);
        x.set(7, 0, warned);
        return x.told(0, 12);
    }

    private static void tendsByKind() {
        CHECK.due("4: TENANT tends", tended(20, 0, 9, 40, 0), 20);
        CHECK.due("4: KEEN tends", tended(20, 1, 9, 40, 0), 40);
        CHECK.due("4: KEEN tends most", tended(99, 1, 9, 40, 0), 198);
        CHECK.due("4: IDLE tends", tended(20, 2, 9, 40, 0), 0);
        CHECK.due("4: IDLE tends, warned", tended(20, 2, 9, 40, 1), 20);
        CHECK.due("4: PENSIONER tends", tended(20, 3, 9, 43, 0), 30);
        CHECK.due("4: PENSIONER tends, old", tended(20, 3, 9, 164, 0), 0);
        CHECK.due("4: HEIR tends", tended(20, 4, 9, 40, 0), 9);
        CHECK.due("4: HEIR tends, warned", tended(20, 4, 9, 40, 9), 29);
        CHECK.due("4: FENCER tends", tended(20, 5, 9, 40, 0), 17);
        CHECK.due("4: FENCER tends 0 at least", tended(2, 5, 9, 40, 0), 0);
    }

    private static int stayed(int stays, int kind, int number, int held) {
        FourYearsForAStrip x = Check.ruled("digs 0; weeds 0; stays " + stays + ";", kind, number);
        x.give(0, 0);
        x.set(6, 0, held);
        return x.told(0, 13);
    }

    private static void staysByKind() {
        CHECK.due("4: TENANT stays", stayed(10, 0, 9, 9), 1);
        CHECK.due("4: TENANT doesn't", stayed(10, 0, 9, 10), 0);
        CHECK.due("4: KEEN stays", stayed(10, 1, 9, 19), 1);
        CHECK.due("4: KEEN doesn't", stayed(10, 1, 9, 20), 0);
        CHECK.due("4: IDLE stays", stayed(10, 2, 9, 9), 1);
        CHECK.due("4: IDLE doesn't", stayed(10, 2, 9, 10), 0);
        CHECK.due("4: PENSIONER stays", stayed(0, 3, 9, 29), 1);
        CHECK.due("4: PENSIONER doesn't", stayed(99, 3, 9, 30), 0);
        CHECK.due("4: HEIR 6 stays", stayed(10, 4, 6, 9), 1);
        CHECK.due("4: HEIR 6 doesn't", stayed(10, 4, 6, 10), 0);
        CHECK.due("4: HEIR 7 stays", stayed(10, 4, 7, 999), 1);
        CHECK.due("4: FENCER stays", stayed(0, 5, 0, 999), 1);
    }

    private static void give() {
        FourYearsForAStrip x = Check.with(0, 0, 1, 0, 2, 0);
        CHECK.due("5: nobody -1", x.give(-1, 0), -2);
        CHECK.due("5: nobody 3", x.give(3, 0), -2);
        CHECK.due("5: strip -1", x.give(0, -1), -2);
        CHECK.due("5: strip 6", x.give(0, 6), -2);
        CHECK.due("5: give", x.give(0, 5), 5);
        CHECK.due("5: strip", x.told(0, 10), 5);
        CHECK.due("5: held", x.told(0, 6), 0);
        CHECK.due("5: warned", x.told(0, 7), 0);
        CHECK.due("5: no such strip is told first", x.give(0, 6), -2);
        CHECK.due("5: who has one", x.give(0, 4), -3);
        CHECK.due("5: who has that one", x.give(0, 5), -3);
        CHECK.due("5: a strip somebody has", x.give(1, 5), -4);
        CHECK.due("5: still waits", x.told(1, 10), -1);
        x.set(4, 1, 1);
        CHECK.due("5: a wet one, to one who doesn't bear it", x.give(1, 1), 1);
        x.strikeOff(2);
        CHECK.due("5: to one gone", x.give(2, 5), -3);
    }

    private static void strikeOff() {
        FourYearsForAStrip x = Check.with(0, 0, 1, 0);
        x.give(0, 3);
        CHECK.due("6: nobody -1", x.strikeOff(-1), -2);
        CHECK.due("6: nobody 2", x.strikeOff(2), -2);
        CHECK.due("6: who has a strip", x.strikeOff(0), 3);
        CHECK.due("6: is gone", x.told(0, 10), -5);
        CHECK.due("6: nobody has it", x.told(3, 11), -1);
        CHECK.due("6: who waits", x.strikeOff(1), -1);
        CHECK.due("6: is gone too", x.told(1, 10), -5);
        CHECK.due("6: who is gone", x.strikeOff(1), -3);
        CHECK.due("6: list", x.list(0), -1);
        CHECK.due("6: gone", x.count(3), 2);
    }

    private static void list() {
        FourYearsForAStrip x = Check.with(0, 0, 1, 9, 2, 0, 3, 0, 4, 0, 5, 0);
        x.set(8, 1, 3);
        x.set(8, 2, 7);
        x.set(8, 4, 3);
        x.set(8, 5, 9);
        x.give(0, 0);
        x.strikeOff(5);
        int[] due = {2, 1, 4, 3, -1, -1};
        for (int k = 0; k < due.length; k++) {
            CHECK.due("7: list(" + k + ")", x.list(k), due[k]);
        }
        CHECK.due("7: list(-1)", x.list(-1), -1);
        CHECK.due("7: list(MAX)", x.list(Integer.MAX_VALUE), -1);
        CHECK.due("7: list(MIN)", x.list(Integer.MIN_VALUE), -1);
    }
}
