/** The boundary cases that promises 26 to 30, and the terms of sheets, name: a test for each sentence. */
public final class HostBoundsTest {
    private static final Sentences S = new Sentences();
    private static final int MAX = Integer.MAX_VALUE, MIN = Integer.MIN_VALUE;

    public static void main(String[] args) {
        sheetsTerm();
        sheet();
        sheetRefuses();
        cell();
        cellRefuses();
        copy();
        copyRefuses();
        copyOutside();
        tenants();
        tenantsLeftOut();
        tenantsRefuses();
        tenantsOutside();
        taken();
        takenRefuses();
        S.end();
    }

    private static int size(FourYearsForAStrip x, int sheet) {
        int size = -1;
        while (size < 41 && x.copy(sheet, size + 1, sheet, size + 1, 0) == 0) {
            size++;
        }
        return size;
    }

    private static int sort(FourYearsForAStrip x, int sheet) {
        for (int sort = 0; sort < 3; sort++) {
            if (x.tenants(sheet, sort, 0, 0) == 0) {
                return sort;
            }
        }
        return -1;
    }

    private static void sheetsTerm() {
        S.of(0, "SHEETS 0 .. 3 are rows of numbers, or missing (as all are at first): of sort 0 bytes, 1 shorts, 2 ints.");
        for (int sheet = 0; sheet < 4; sheet++) {
            S.due("missing at first", Gardens.untouched().cell(sheet, 0, 0), -11);
            S.due("missing at first", sort(Gardens.untouched(), sheet), -1);
            for (int sort = 0; sort < 3; sort++) {
                FourYearsForAStrip x = Gardens.untouched();
                S.due("sheet(" + sheet + ", " + sort + ", 40)", x.sheet(sheet, sort, 40), 1);
                S.due("its sort", sort(x, sheet), sort);
                S.due("its size", size(x, sheet), 40);
                for (int other = 0; other < 4; other++) {
                    S.due("the others are missing", sort(x, other), other == sheet ? sort : -1);
                }
            }
        }
    }

    private static void sheet() {
        S.of(26, "A SHEET becomes a row of n of a sort, all 0, or missing (sort -1: n does not matter): 1.");
        for (int n : new int[] {0, 1, 39, 40}) {
            FourYearsForAStrip x = Gardens.untouched();
            S.due("n " + n, x.sheet(3, 2, n), 1);
            S.due("its size", size(x, 3), n);
        }
        for (int n : new int[] {0, -1, 41, MIN, MAX}) {
            FourYearsForAStrip x = Gardens.some();
            S.due("missing, n " + n, x.sheet(0, -1, n), 1);
            S.due("is missing", x.cell(0, 0, 0), -11);
            S.due("missing again", x.sheet(0, -1, n), 1);
        }
        FourYearsForAStrip x = Gardens.untouched();
        x.set(3, 0, 0);
        for (int sort = 0; sort < 3; sort++) {
            x.sheet(0, sort, 30);
            S.due("all 0", x.tells(0, 0, 0), -1);
            x.cell(0, 29, -1);
            S.due("the last is otherwise", x.tells(0, 0, 0), 29);
            x.sheet(0, sort, 30);
            S.due("all 0 anew", x.tells(0, 0, 0), -1);
            x.cell(0, 29, -1);
            x.sheet(0, -1, 0);
            x.sheet(0, sort, 30);
            S.due("all 0 behind a missing one", x.tells(0, 0, 0), -1);
            x.cell(0, 0, -1);
            S.due("the first is otherwise", x.tells(0, 0, 0), 0);
            x.sheet(0, sort, 30);
            S.due("all 0 anew", x.tells(0, 0, 0), -1);
            x.cell(0, 29, -1);
        }
    }

    private static void sheetRefuses() {
        S.of(26, "BAD: no such SHEET, sort; n above 40; -14.");
        S.within("sheet(sheet, 0, 3)", Gardens::some, 0, 3, (x, v) -> x.sheet(v, 0, 3), -2);
        S.within("sheet(0, sort, 3)", Gardens::some, -1, 2, (x, v) -> x.sheet(0, v, 3), -2);
        for (int n : new int[] {41, 42, 256, 65536, MAX - 1, MAX}) {
            S.refused("n " + n, Gardens::some, x -> x.sheet(1, 2, n), -2);
        }
        for (int n : new int[] {-1, -2, -256, -65536, MIN + 1, MIN}) {
            for (int sort = 0; sort < 3; sort++) {
                int s = sort;
                S.refused("n " + n + " of sort " + s, Gardens::some, x -> x.sheet(1, s, n), -14);
            }
            S.refused("BAD ahead of -14: sheet", Gardens::some, x -> x.sheet(4, 0, n), -2);
            S.refused("BAD ahead of -14: sheet", Gardens::some, x -> x.sheet(-1, 0, n), -2);
            S.refused("BAD ahead of -14: sort", Gardens::some, x -> x.sheet(1, 3, n), -2);
            S.refused("BAD ahead of -14: sort", Gardens::some, x -> x.sheet(1, -2, n), -2);
        }
        S.refused("no such sheet, missing", Gardens::some, x -> x.sheet(4, -1, 0), -2);
    }

    /** What an item is, 0 .. 99; -1 if it is none of these. Strip 0 doesn't change. */
    private static int item(FourYearsForAStrip x, int sheet, int sort, int i) {
        x.sheet(3, sort, 1);
        x.copy(sheet, i, 3, 0, 1);
        return x.tells(3, 0, 3);
    }

    private static FourYearsForAStrip still() {
        return Check.ruled("digs 0;weeds 0;stays 0;");
    }

    private static void cell() {
        S.of(27, "Item i of a SHEET becomes v (of bytes, shorts its lowest 8, 16 bits): 1.");
        int[][] cases = {{0, 99, 99}, {0, 256, 0}, {0, 256 + 99, 99}, {0, -256 + 7, 7}, {0, 255, -1}, {0, -1, -1},
            {0, 128, -1}, {0, MIN, 0}, {0, MAX, -1}, {0, MIN + 5, 5},
            {1, 99, 99}, {1, 256, -1}, {1, 65536, 0}, {1, 65536 + 99, 99}, {1, -65536 + 7, 7}, {1, 32768, -1},
            {1, MIN, 0}, {1, MAX, -1}, {1, 65535, -1},
            {2, 99, 99}, {2, 256, -1}, {2, 65536, -1}, {2, 65536 + 99, -1}, {2, MIN, -1}, {2, MAX, -1}, {2, -1, -1}};
        for (int[] c : cases) {
            FourYearsForAStrip x = still();
            x.sheet(0, c[0], 3);
            S.due("sort " + c[0] + ", " + c[1], x.cell(0, 2, c[1]), 1);
            S.due("is", item(x, 0, c[0], 2), c[2]);
            S.due("the one ahead is 0", item(x, 0, c[0], 1), 0);
        }
    }

    private static void cellRefuses() {
        S.of(27, "BAD: no such SHEET; -11; -12.");
        S.within("cell(sheet, 0, 1)", Gardens::some, 0, 3, (x, v) -> x.cell(v, 0, 1), -2);
        S.within("cell(0, i, 1)", Gardens::some, 0, 4, (x, v) -> x.cell(0, v, 1), -12);
        S.within("cell(1, i, 1)", Gardens::some, 0, 2, (x, v) -> x.cell(1, v, 1), -12);
        S.refused("a missing one", Gardens::some, x -> x.cell(3, 0, 1), -11);
        S.refused("-11 ahead of -12", Gardens::some, x -> x.cell(3, -1, 1), -11);
        S.refused("-11 ahead of -12", Gardens::some, x -> x.cell(3, 40, 1), -11);
        S.refused("BAD ahead of all", Gardens::some, x -> x.cell(4, -1, 1), -2);
        FourYearsForAStrip x = Gardens.untouched();
        x.sheet(0, 0, 0);
        S.due("of an empty one", x.cell(0, 0, 1), -12);
        x.sheet(0, 0, 40);
        S.due("the last of 40", x.cell(0, 39, 1), 1);
        S.due("behind 40", x.cell(0, 40, 1), -12);
    }

    /** Sheets 0 and 1 of five ints, 1 .. 5 and all 0. */
    private static FourYearsForAStrip counted() {
        FourYearsForAStrip x = still();
        Gardens.write(x, 0, 2, 1, 2, 3, 4, 5);
        x.sheet(1, 2, 5);
        return x;
    }

    private static String five(FourYearsForAStrip x, int sheet) {
        StringBuilder all = new StringBuilder();
        for (int i = 0; i < 5; i++) {
            all.append(item(x, sheet, 2, i));
        }
        return all.toString();
    }

    private static void copied(int i, int other, int j, int n, String due) {
        FourYearsForAStrip x = counted();
        S.due("copy(0, " + i + ", " + other + ", " + j + ", " + n + ")", x.copy(0, i, other, j, n), n);
        S.holds("is " + due, five(x, other).equals(due));
    }

    private static void copy() {
        S.of(28, "n numbers of a SHEET, from item i on, come to another one's item j on (as they were): n.");
        copied(0, 1, 0, 5, "12345");
        copied(4, 1, 0, 1, "50000");
        copied(0, 1, 4, 1, "00001");
        copied(5, 1, 5, 0, "00000");
        copied(0, 1, 5, 0, "00000");
        copied(5, 1, 0, 0, "00000");
        copied(0, 0, 1, 4, "11234");
        copied(1, 0, 0, 4, "23455");
        copied(0, 0, 0, 5, "12345");
        copied(0, 0, 4, 1, "12341");
        FourYearsForAStrip empty = Gardens.untouched();
        empty.sheet(0, 0, 0);
        S.due("none of none", empty.copy(0, 0, 0, 0, 0), 0);
        S.due("one of none", empty.copy(0, 0, 0, 0, 1), -12);
        FourYearsForAStrip all = still();
        all.sheet(0, 0, 40);
        all.sheet(1, 0, 40);
        all.cell(0, 39, 77);
        S.due("40 of 40", all.copy(0, 0, 1, 0, 40), 40);
        S.due("the last came", item(all, 1, 0, 39), 77);
        S.due("41 of 40", all.copy(0, 0, 1, 0, 41), -12);
    }

    private static void copyRefuses() {
        S.of(28, "BAD: no such SHEET; -11; -13: they are of unlike sorts");
        S.within("copy(sheet, ..)", Gardens::some, 0, 3, (x, v) -> x.copy(v, 0, 0, 0, 1), -2);
        S.within("copy(.., other, ..)", Gardens::some, 0, 3, (x, v) -> x.copy(0, 0, v, 0, 1), -2);
        S.refused("from a missing one", Gardens::some, x -> x.copy(3, 0, 0, 0, 1), -11);
        S.refused("to a missing one", Gardens::some, x -> x.copy(0, 0, 3, 0, 1), -11);
        S.refused("none of a missing one", Gardens::some, x -> x.copy(3, 0, 3, 0, 0), -11);
        S.refused("BAD ahead of -11", Gardens::some, x -> x.copy(3, 0, 4, 0, 1), -2);
        S.refused("BAD ahead of -11", Gardens::some, x -> x.copy(-1, 0, 3, 0, 1), -2);
        S.refused("-11 ahead of -12", Gardens::some, x -> x.copy(3, -1, 0, 0, -1), -11);
        S.refused("-11 ahead of -12", Gardens::some, x -> x.copy(0, -1, 3, 0, -1), -11);
        int[][] unlike = {{0, 1}, {1, 0}, {0, 2}, {2, 0}, {1, 2}, {2, 1}};
        for (int[] u : unlike) {
            S.refused("unlike", Gardens::some, x -> x.copy(u[0], 0, u[1], 0, 1), -13);
            S.refused("unlike, none", Gardens::some, x -> x.copy(u[0], 0, u[1], 0, 0), -13);
            S.refused("-13 ahead of -12", Gardens::some, x -> x.copy(u[0], -1, u[1], 0, 1), -13);
            S.refused("-13 ahead of -12", Gardens::some, x -> x.copy(u[0], 0, u[1], 40, 1), -13);
            S.refused("-13 ahead of -12", Gardens::some, x -> x.copy(u[0], 0, u[1], 0, -1), -13);
        }
    }

    private static void copyOutside() {
        S.of(28, "-12 (also with n below 0)");
        int[][] outside = {{0, 0, 6}, {1, 0, 5}, {0, 1, 5}, {5, 0, 1}, {0, 5, 1}, {6, 0, 0}, {0, 6, 0}, {-1, 0, 0},
            {0, -1, 0}, {-1, 0, 1}, {0, -1, 1}, {0, 0, -1}, {1, 1, -1}, {5, 5, -5}, {0, 0, MIN}, {0, 0, MAX},
            {MAX, 0, 0}, {0, MAX, 0}, {MIN, 0, 0}, {0, MIN, 0}, {MAX, 0, 1}, {0, MAX, 1}, {1, 0, MAX}, {0, 1, MAX},
            {MAX, MAX, MAX}, {MIN, MIN, MIN}, {MAX, MAX, MIN}, {MIN, MIN, MAX}, {5, 0, MIN}, {-1, -1, MIN},
            {MIN, 0, MIN}, {0, MIN, MIN}, {256, 0, 1}, {0, 256, 1}, {0, 0, 256}, {65536, 0, 1}, {40, 0, 1}, {0, 40, 1}};
        for (int[] o : outside) {
            for (int other = 0; other < 2; other++) {
                FourYearsForAStrip x = counted();
                S.due("copy(0, " + o[0] + ", " + other + ", " + o[1] + ", " + o[2] + ")",
                    x.copy(0, o[0], other, o[1], o[2]), -12);
                S.holds("nothing came", five(x, 0).equals("12345") && five(x, 1).equals("00000"));
            }
        }
        FourYearsForAStrip x = Gardens.untouched();
        x.sheet(0, 0, 5);
        x.sheet(1, 0, 2);
        S.due("as many as the other has", x.copy(0, 3, 1, 0, 2), 2);
        S.due("more than the other has", x.copy(0, 0, 1, 0, 3), -12);
        S.due("more than there are", x.copy(1, 0, 0, 0, 3), -12);
    }

    private static void tenants() {
        S.of(29, "PEOPLE by a SHEET that is taken for one of a sort: from one on, two by two (as of tenant()), n of them"
            + " (0 .. 8): how many came (others are left out).");
        for (int n = 0; n <= 8; n++) {
            FourYearsForAStrip x = Gardens.untouched();
            x.sheet(0, 0, 16);
            S.due("tenants(0, 0, 0, " + n + ")", x.tenants(0, 0, 0, n), n);
            S.due("people", x.count(0), n);
        }
        FourYearsForAStrip x = Gardens.untouched();
        Gardens.write(x, 0, 2, 9, 5, 9, 0, 0);
        S.due("from 1 on", x.tenants(0, 2, 1, 2), 2);
        S.due("kind of the first", x.told(0, 9), 5);
        S.due("number of the first", x.told(0, 5), 9);
        S.due("kind of the second", x.told(1, 9), 0);
        S.due("from 3 on, the last pair", x.tenants(0, 2, 3, 1), 1);
        for (int from : new int[] {-1, 5, 6, MIN, MAX}) {
            S.due("none from " + from, x.tenants(0, 2, from, 0), 0);
        }
        S.due("people", x.count(0), 3);
    }

    private static void tenantsLeftOut() {
        S.of(29, "how many came (others are left out).");
        int[][] none = {{-1, 0}, {6, 0}, {0, -1}, {0, 10}, {MAX, 0}, {0, MIN}, {256, 0}, {0, 65536}};
        for (int[] pair : none) {
            FourYearsForAStrip x = Gardens.untouched();
            Gardens.write(x, 0, 2, pair[0], pair[1], 3, 4);
            S.due("of " + pair[0] + ", " + pair[1], x.tenants(0, 2, 0, 2), 1);
            S.due("the next came", x.told(0, 9), 3);
            S.due("alone", x.count(0), 1);
        }
        FourYearsForAStrip full = Gardens.some();
        full.sheet(0, 0, 16);
        S.due("two have room", full.tenants(0, 0, 0, 8), 2);
        S.due("eight", full.count(0), 8);
        S.due("none has room", full.tenants(0, 0, 0, 8), 0);
        FourYearsForAStrip cut = Gardens.untouched();
        Gardens.write(cut, 0, 0, 256 + 3, 256 + 4);
        S.due("bytes are cut", cut.tenants(0, 0, 0, 1), 1);
        S.due("kind", cut.told(0, 9), 3);
    }

    private static void tenantsRefuses() {
        S.of(29, "BAD: no such SHEET, sort, n; -13; -11");
        S.within("tenants(sheet, 0, 0, 0)", Gardens::some, 0, 3, (x, v) -> x.tenants(v, 0, 0, 0), -2);
        S.within("tenants(0, sort, 0, 0)", Gardens::some, 0, 2, (x, v) -> x.tenants(0, v, 0, 0), -2);
        S.within("tenants(2, 1, 0, n)", Gardens::some, 0, 8, (x, v) -> x.tenants(2, 1, 0, v), -2);
        int[] sorts = {0, 2, 1};
        for (int sheet = 0; sheet < 3; sheet++) {
            for (int sort = 0; sort < 3; sort++) {
                int sh = sheet;
                int so = sort;
                if (so != sorts[sh]) {
                    S.refused("another sort", Gardens::some, x -> x.tenants(sh, so, 0, 1), -13);
                    S.refused("another sort, none", Gardens::some, x -> x.tenants(sh, so, 0, 0), -13);
                    S.refused("-13 ahead of -12", Gardens::some, x -> x.tenants(sh, so, -1, 1), -13);
                    S.refused("BAD ahead of -13", Gardens::some, x -> x.tenants(sh, so, 0, 9), -2);
                }
            }
        }
        for (int sort = 0; sort < 3; sort++) {
            int so = sort;
            S.refused("a missing one", Gardens::some, x -> x.tenants(3, so, 0, 1), -11);
            S.refused("a missing one, none", Gardens::some, x -> x.tenants(3, so, 0, 0), -11);
            S.refused("-11 ahead of -12", Gardens::some, x -> x.tenants(3, so, -1, 8), -11);
            S.refused("BAD ahead of -11", Gardens::some, x -> x.tenants(3, so, 0, -1), -2);
        }
        S.refused("BAD ahead of -11: sort", Gardens::some, x -> x.tenants(3, 3, 0, 1), -2);
        S.refused("sort -1", Gardens::some, x -> x.tenants(3, -1, 0, 1), -2);
    }

    private static void tenantsOutside() {
        S.of(29, "-12: what stood ahead came.");
        for (int size = 0; size <= 7; size++) {
            FourYearsForAStrip x = Gardens.untouched();
            x.sheet(0, 1, size);
            S.due("4 of " + size, x.tenants(0, 1, 0, 4), -12);
            S.due("came", x.count(0), size / 2);
        }
        FourYearsForAStrip whole = Gardens.untouched();
        whole.sheet(0, 1, 8);
        S.due("4 of 8", whole.tenants(0, 1, 0, 4), 4);
        for (int from : new int[] {-1, -2, -8, MIN, MIN + 1, 4, 5, 6, 40, 256, 65536, MAX, MAX - 1, MAX - 15}) {
            FourYearsForAStrip x = Gardens.untouched();
            x.sheet(0, 1, 5);
            S.due("from " + from, x.tenants(0, 1, from, 8), -12);
            S.due("nobody came", x.count(0), 0);
            S.due("one from " + from, x.tenants(0, 1, from, 1), -12);
            S.due("nobody came", x.count(0), 0);
        }
        FourYearsForAStrip x = Gardens.untouched();
        x.sheet(0, 1, 5);
        S.due("from 3: one, and outside", x.tenants(0, 1, 3, 2), -12);
        S.due("one came", x.count(0), 1);
        FourYearsForAStrip full = Gardens.crowded();
        full.sheet(0, 1, 5);
        S.due("outside, though nobody has room", full.tenants(0, 1, 0, 3), -12);
        S.due("eight", full.count(0), 8);
        FourYearsForAStrip none = Gardens.untouched();
        Gardens.write(none, 0, 1, 9, 9, 2);
        S.due("outside behind one left out", none.tenants(0, 1, 0, 2), -12);
        S.due("nobody came", none.count(0), 0);
    }

    private static void taken() {
        S.of(30, "One of PEOPLE taken for one of KIND k (0 .. 5), or one under that one (also by others between): the"
            + " NUMBER.");
        FourYearsForAStrip x = Check.with(0, 0, 1, 9, 2, 2, 3, 3, 4, 4, 5, 5);
        int[] numbers = {0, 9, 2, 3, 4, 5};
        int[][] are = {{0}, {0, 1}, {0, 2}, {0, 1, 3}, {0, 2, 4}, {0, 5}};
        for (int one = 0; one < 6; one++) {
            for (int k : are[one]) {
                S.due("taken(" + one + ", " + k + ")", x.taken(one, k), numbers[one]);
            }
        }
        FourYearsForAStrip eight = Gardens.crowded();
        S.due("the eighth", eight.taken(7, 0), 2);
        S.due("one gone", eight.taken(4, 4), 7);
    }

    private static void takenRefuses() {
        S.of(30, "BAD: k; -11: none such; -13.");
        S.within("taken(3, k)", Gardens::some, 0, 5, (x, v) -> x.taken(3, v), -2);
        S.within("taken(one, 0)", Gardens::some, 0, 5, (x, v) -> x.taken(v, 0), -11);
        S.within("taken(one, 0), eight", Gardens::crowded, 0, 7, (x, v) -> x.taken(v, 0), -11);
        S.within("taken(one, 0), none", Gardens::untouched, 0, -1, (x, v) -> x.taken(v, 0), -11);
        S.refused("BAD ahead of -11", Gardens::some, x -> x.taken(6, 6), -2);
        S.refused("BAD ahead of -13", Gardens::some, x -> x.taken(0, -1), -2);
        int[][] are = {{1, 2, 3, 4, 5}, {2, 3, 4, 5}, {1, 3, 4, 5}, {2, 4, 5}, {1, 3, 5}, {1, 2, 3, 4}};
        for (int one = 0; one < 6; one++) {
            int o = one;
            for (int k : are[one]) {
                S.refused("taken(" + one + ", " + k + ")", Gardens::some, x -> x.taken(o, k), -13);
            }
        }
    }
}
