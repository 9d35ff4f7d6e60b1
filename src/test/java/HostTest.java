/** Promises 26 to 30: sheet, cell, copy, tenants, taken. */
public final class HostTest {
    private static final Check CHECK = new Check();

    public static void main(String[] args) {
        sheet();
        sheetIsAllZero();
        cell();
        copy();
        copyRefuses();
        tenants();
        tenantsOutside();
        tenantsRefuses();
        taken();
        CHECK.end();
    }

    private static void sheet() {
        FourYearsForAStrip x = new FourYearsForAStrip();
        CHECK.due("26: sheet -1", x.sheet(-1, 0, 0), -2);
        CHECK.due("26: sheet 4", x.sheet(4, 0, 0), -2);
        CHECK.due("26: sort -2", x.sheet(0, -2, 0), -2);
        CHECK.due("26: sort 3", x.sheet(0, 3, 0), -2);
        CHECK.due("26: n 41", x.sheet(0, 0, 41), -2);
        CHECK.due("26: n -1", x.sheet(0, 0, -1), -14);
        CHECK.due("26: n MIN", x.sheet(0, 0, Integer.MIN_VALUE), -14);
        CHECK.due("26: n -1, no sort", x.sheet(0, 3, -1), -2);
        CHECK.due("26: n -1, no sheet", x.sheet(4, 0, -1), -2);
        CHECK.due("26: still missing", x.cell(0, 0, 0), -11);
        for (int sort = 0; sort < 3; sort++) {
            CHECK.due("26: 40 of sort " + sort, x.sheet(sort, sort, 40), 1);
            CHECK.due("26: the last", x.cell(sort, 39, 1), 1);
            CHECK.due("26: none more", x.cell(sort, 40, 1), -12);
        }
        CHECK.due("26: 0", x.sheet(3, 0, 0), 1);
        CHECK.due("26: 0: none", x.cell(3, 0, 1), -12);
        CHECK.due("26: a refused size", x.sheet(0, 0, -3), -14);
        CHECK.due("26: changes nothing", x.cell(0, 39, 1), 1);
        CHECK.due("26: missing", x.sheet(0, -1, -7), 1);
        CHECK.due("26: is missing", x.cell(0, 0, 1), -11);
        CHECK.due("26: missing, n 99", x.sheet(1, -1, 99), 1);
        CHECK.due("26: is missing", x.cell(1, 0, 1), -11);
    }

    /** Reads a row by its zeros: a strip at 0 that nobody tends stays so. */
    private static void sheetIsAllZero() {
        FourYearsForAStrip x = new FourYearsForAStrip();
        x.set(3, 0, 0);
        x.sheet(0, 2, 30);
        CHECK.due("26: all 0", x.tells(0, 0, 0), -1);
        for (int i = 0; i < 30; i++) {
            x.cell(0, i, 5);
        }
        x.sheet(0, 2, 30);
        CHECK.due("26: all 0 anew", x.tells(0, 0, 0), -1);
        x.cell(0, 20, 5);
        x.sheet(0, 2, 10);
        x.sheet(0, 2, 30);
        CHECK.due("26: also behind a shorter one", x.tells(0, 0, 0), -1);
        x.sheet(1, 2, 30);
        x.cell(0, 20, 5);
        CHECK.due("26: another one is another", x.tells(1, 0, 0), -1);
        CHECK.due("26: than this", x.tells(0, 0, 0), 20);
    }

    private static void cell() {
        FourYearsForAStrip x = new FourYearsForAStrip();
        x.sheet(0, 0, 3);
        CHECK.due("27: sheet -1", x.cell(-1, 0, 0), -2);
        CHECK.due("27: sheet 4", x.cell(4, 0, 0), -2);
        CHECK.due("27: missing", x.cell(1, -1, 0), -11);
        CHECK.due("27: -1", x.cell(0, -1, 0), -12);
        CHECK.due("27: 3", x.cell(0, 3, 0), -12);
        CHECK.due("27: MAX", x.cell(0, Integer.MAX_VALUE, 0), -12);
        CHECK.due("27: MIN", x.cell(0, Integer.MIN_VALUE, 0), -12);
        CHECK.due("27: 2", x.cell(0, 2, 0), 1);
        // what a cell has become is seen by the people that come of it
        CHECK.due("27: a byte's bits", numberBy(0, 256 + 7), 7);
        CHECK.due("27: a byte below 0", numberBy(0, 128), -1);
        CHECK.due("27: a short's bits", numberBy(1, 65536 + 7), 7);
        CHECK.due("27: a short has more than a byte's", numberBy(1, 256 + 7), -1);
        CHECK.due("27: an int", numberBy(2, 7), 7);
        CHECK.due("27: an int has all bits", numberBy(2, 65536 + 7), -1);
    }

    private static int numberBy(int sort, int v) {
        FourYearsForAStrip x = new FourYearsForAStrip();
        x.sheet(0, sort, 2);
        x.cell(0, 1, v);
        return x.tenants(0, sort, 0, 1) == 1 ? x.told(0, 5) : -1;
    }

    /** The eight numbers of a row of ints, where nothing grows: what strip 0 must be to be told so. */
    private static String numbers(FourYearsForAStrip x, int sheet) {
        StringBuilder row = new StringBuilder();
        for (int i = 0; i < 8; i++) {
            x.sheet(3, 2, 1);
            x.copy(sheet, i, 3, 0, 1);
            row.append(x.tells(3, 0, 3));
        }
        return row.toString();
    }

    private static FourYearsForAStrip counted() {
        FourYearsForAStrip x = Check.ruled("digs 0; weeds 0; stays 0;");
        x.sheet(0, 2, 8);
        x.sheet(1, 2, 8);
        for (int i = 0; i < 8; i++) {
            x.cell(0, i, i + 1);
        }
        return x;
    }

    private static void copy() {
        FourYearsForAStrip x = counted();
        CHECK.due("28: copy", x.copy(0, 1, 1, 3, 4), 4);
        CHECK.holds("28: to the other", numbers(x, 1).equals("00023450"));
        CHECK.holds("28: from here", numbers(x, 0).equals("12345678"));
        CHECK.due("28: all", x.copy(0, 0, 1, 0, 8), 8);
        CHECK.holds("28: all came", numbers(x, 1).equals("12345678"));
        CHECK.due("28: on itself, up", x.copy(0, 0, 0, 2, 5), 5);
        CHECK.holds("28: as they were", numbers(x, 0).equals("12123458"));
        CHECK.due("28: on itself, down", x.copy(1, 2, 1, 0, 5), 5);
        CHECK.holds("28: as they were", numbers(x, 1).equals("34567678"));
        CHECK.due("28: none", x.copy(0, 8, 1, 8, 0), 0);
        CHECK.due("28: on the same place", x.copy(0, 3, 0, 3, 5), 5);
    }

    private static void copyRefuses() {
        FourYearsForAStrip x = counted();
        x.sheet(2, 1, 8);
        CHECK.due("28: sheet -1", x.copy(-1, 0, 1, 0, 0), -2);
        CHECK.due("28: sheet 4", x.copy(4, 0, 1, 0, 0), -2);
        CHECK.due("28: other -1", x.copy(0, 0, -1, 0, 0), -2);
        CHECK.due("28: other 4", x.copy(0, 0, 4, 0, 0), -2);
        CHECK.due("28: sheet missing", x.copy(3, 0, 1, 0, 0), -11);
        CHECK.due("28: other missing", x.copy(0, -1, 3, 0, -1), -11);
        CHECK.due("28: both missing", x.copy(3, 0, 3, 0, 0), -11);
        CHECK.due("28: missing, and no other", x.copy(3, 0, 4, 0, 0), -2);
        CHECK.due("28: unlike", x.copy(0, 0, 2, 0, 1), -13);
        CHECK.due("28: unlike, outside", x.copy(0, -1, 2, 0, -1), -13);
        CHECK.due("28: unlike, nothing", x.copy(0, 0, 2, 0, 0), -13);
        int max = Integer.MAX_VALUE;
        int min = Integer.MIN_VALUE;
        int[][] outside = {{-1, 0, 1}, {0, -1, 1}, {0, 0, -1}, {0, 0, 9}, {8, 0, 1}, {0, 8, 1}, {4, 0, 5}, {0, 4, 5},
            {9, 0, 0}, {0, 9, 0}, {max, 0, 1}, {0, max, 1}, {1, 0, max}, {max, max, max}, {min, 0, 1}, {0, min, 1},
            {0, 0, min}, {min, min, min}, {max, 0, min}, {-1, 0, 0}, {0, -1, 0}};
        for (int[] o : outside) {
            CHECK.due("28: outside " + o[0] + ", " + o[1] + ", " + o[2], x.copy(0, o[0], 1, o[1], o[2]), -12);
        }
        CHECK.holds("28: nothing came", numbers(x, 1).equals("00000000"));
    }

    private static void tenants() {
        for (int sort = 0; sort < 3; sort++) {
            FourYearsForAStrip x = new FourYearsForAStrip();
            Gardens.write(x, 1, sort, 9, 0, 1, 5, 2, 6, 3, 1, 10, -1, 0, 0, -1, 4, 9);
            CHECK.due("29: three of seven", x.tenants(1, sort, 1, 7), 3);
            int[] kinds = {0, 5, 4};
            int[] numbers = {1, 2, 9};
            CHECK.due("29: came", x.count(0), 3);
            for (int one = 0; one < 3; one++) {
                CHECK.due("29: kind of " + one, x.told(one, 9), kinds[one]);
                CHECK.due("29: number of " + one, x.told(one, 5), numbers[one]);
                CHECK.due("29: waits", x.told(one, 10), -1);
            }
            CHECK.due("29: none are asked for", x.tenants(1, sort, 1, 0), 0);
            CHECK.due("29: none are asked for, from nowhere", x.tenants(1, sort, -5, 0), 0);
            CHECK.due("29: from 13 on", x.tenants(1, sort, 13, 1), 1);
            CHECK.due("29: came", x.count(0), 4);
        }
        FourYearsForAStrip x = Check.with(0, 0, 0, 0, 0, 0, 0, 0, 0, 0, 0, 0);
        x.sheet(0, 0, 16);
        CHECK.due("29: two have room", x.tenants(0, 0, 0, 8), 2);
        CHECK.due("29: none has", x.tenants(0, 0, 0, 8), 0);
        CHECK.due("29: people", x.count(0), 8);
    }

    private static void tenantsOutside() {
        FourYearsForAStrip x = new FourYearsForAStrip();
        Gardens.write(x, 0, 1, 0, 1, 2, 3, 1);
        CHECK.due("29: the third is cut", x.tenants(0, 1, 0, 3), -12);
        CHECK.due("29: what stood ahead came", x.count(0), 2);
        CHECK.due("29: two", x.tenants(0, 1, 0, 2), 2);
        CHECK.due("29: from -1", x.tenants(0, 1, -1, 1), -12);
        CHECK.due("29: from -2", x.tenants(0, 1, -2, 2), -12);
        CHECK.due("29: from 4", x.tenants(0, 1, 4, 1), -12);
        CHECK.due("29: from 5", x.tenants(0, 1, 5, 1), -12);
        CHECK.due("29: from MAX", x.tenants(0, 1, Integer.MAX_VALUE, 1), -12);
        CHECK.due("29: from MAX, 8", x.tenants(0, 1, Integer.MAX_VALUE - 1, 8), -12);
        CHECK.due("29: from MIN", x.tenants(0, 1, Integer.MIN_VALUE, 8), -12);
        CHECK.due("29: people", x.count(0), 4);
        for (int i = 0; i < 4; i++) {
            x.tenant(0, 0);
        }
        CHECK.due("29: outside, though nobody has room", x.tenants(0, 1, 0, 3), -12);
    }

    private static void tenantsRefuses() {
        FourYearsForAStrip x = new FourYearsForAStrip();
        x.sheet(0, 1, 16);
        CHECK.due("29: sheet -1", x.tenants(-1, 1, 0, 1), -2);
        CHECK.due("29: sheet 4", x.tenants(4, 1, 0, 1), -2);
        CHECK.due("29: sort -1", x.tenants(0, -1, 0, 1), -2);
        CHECK.due("29: sort -1, missing", x.tenants(1, -1, 0, 1), -2);
        CHECK.due("29: sort 3", x.tenants(0, 3, 0, 1), -2);
        CHECK.due("29: n -1", x.tenants(0, 1, 0, -1), -2);
        CHECK.due("29: n 9", x.tenants(0, 1, 0, 9), -2);
        CHECK.due("29: n 9, of another sort", x.tenants(0, 2, 0, 9), -2);
        CHECK.due("29: taken for bytes", x.tenants(0, 0, 0, 1), -13);
        CHECK.due("29: taken for ints, nobody asked for", x.tenants(0, 2, 0, 0), -13);
        CHECK.due("29: of another sort, outside", x.tenants(0, 2, -1, 1), -13);
        for (int sort = 0; sort < 3; sort++) {
            CHECK.due("29: missing", x.tenants(1, sort, -1, 1), -11);
            CHECK.due("29: missing, nobody asked for", x.tenants(1, sort, 0, 0), -11);
        }
        CHECK.due("29: nobody came", x.count(0), 0);
    }

    private static void taken() {
        FourYearsForAStrip x = Check.with(0, 1, 1, 2, 2, 3, 3, 4, 4, 5, 5, 6);
        int[] under = {0b000001, 0b000011, 0b000101, 0b001011, 0b010101, 0b100001};
        for (int one = 0; one < 6; one++) {
            for (int k = 0; k < 6; k++) {
                boolean is = (under[one] >> k & 1) == 1;
                CHECK.due("30: taken(" + one + ", " + k + ")", x.taken(one, k), is ? one + 1 : -13);
            }
        }
        CHECK.due("30: k -1", x.taken(0, -1), -2);
        CHECK.due("30: k 6", x.taken(0, 6), -2);
        CHECK.due("30: nobody, k 6", x.taken(6, 6), -2);
        CHECK.due("30: nobody 6", x.taken(6, 0), -11);
        CHECK.due("30: nobody -1", x.taken(-1, 0), -11);
        CHECK.due("30: nobody MAX", x.taken(Integer.MAX_VALUE, 0), -11);
        x.strikeOff(4);
        CHECK.due("30: one who is gone", x.taken(4, 2), 5);
        x.set(5, 0, 8);
        CHECK.due("30: the number as it is", x.taken(0, 0), 8);
    }
}
