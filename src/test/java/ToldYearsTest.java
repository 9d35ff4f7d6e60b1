/** Promises 19 to 25: tells, film, drawn, chance, image, back, count. */
public final class ToldYearsTest {
    private static final Check CHECK = new Check();

    public static void main(String[] args) {
        firstOtherwise();
        texts();
        levels();
        kindsAndNumbers();
        sorts();
        tellsRefuses();
        film();
        drawn();
        chance();
        image();
        laterImage();
        imageAndNewPeople();
        count();
        CHECK.end();
    }

    private static void firstOtherwise() {
        FourYearsForAStrip x = Check.with(0, 0);
        x.give(0, 2);
        Gardens.write(x, 0, 2, 47, 44, 41);
        CHECK.due("19: all are so", x.tells(0, 2, 0), -1);
        for (int i = 0; i < 3; i++) {
            Gardens.write(x, 0, 2, 47, 44, 41);
            x.cell(0, i, 7);
            CHECK.due("19: otherwise " + i, x.tells(0, 2, 0), i);
        }
        CHECK.due("19: of another strip", x.tells(0, 3, 0), 0);
        Gardens.write(x, 1, 2, 38, 26, 7, 2);
        CHECK.due("19: of another strip", x.tells(1, 3, 0), 2);
        Gardens.write(x, 1, 2);
        CHECK.due("19: none are told", x.tells(1, 3, 0), -1);
        CHECK.due("19: in thought", x.told(2, 3), 50);
    }

    private static void texts() {
        FourYearsForAStrip x = Check.with(0, 0);
        x.give(0, 2);
        Check.read(x, "digs 0; weeds 3; stays 20;");
        Check.read(x, "digs 0; weeds 4; stays 20;");
        Check.read(x, "digs 10; weeds 13; stays 20;");
        Gardens.write(x, 0, 2, 47, 44, 41);
        CHECK.due("19: texts", x.tells(0, 2, 1), 0b1011);
        CHECK.due("19: texts, of a strip nobody has", x.tells(0, 1, 1), 0b0010);
        CHECK.due("19: the rule is as it was", x.count(7), 0);
        Gardens.write(x, 0, 2);
        CHECK.due("19: all texts", x.tells(0, 2, 1), 0b1111);
        Gardens.write(x, 0, 2, 1);
        CHECK.due("19: no text", x.tells(0, 2, 1), 0);
    }

    private static void levels() {
        FourYearsForAStrip x = Check.with(0, 0);
        x.give(0, 2);
        Gardens.write(x, 0, 2, 47, 44);
        CHECK.due("19: one level", x.tells(0, 2, 2), 1);
        CHECK.due("19: which", x.tells(0, 2, 3), 50);
        CHECK.due("19: nobody there", x.tells(0, 1, 2), 0);
        Gardens.write(x, 0, 2, 9);
        CHECK.due("19: 0 .. 12", x.tells(0, 2, 2), 13);
        CHECK.due("19: the least", x.tells(0, 2, 3), 0);
        Gardens.write(x, 0, 2, 87);
        CHECK.due("19: 99 is one, too", x.tells(0, 1, 2), 1);
        CHECK.due("19: 99", x.tells(0, 1, 3), 99);
        Gardens.write(x, 0, 2, 98);
        CHECK.due("19: none", x.tells(0, 1, 2), 0);
        CHECK.due("19: no least", x.tells(0, 1, 3), -1);
        Gardens.write(x, 0, 2);
        CHECK.due("19: all", x.tells(0, 1, 2), 100);
        CHECK.due("19: of all the least", x.tells(0, 1, 3), 0);
        CHECK.due("19: in thought", x.told(1, 3), 50);
    }

    private static void kindsAndNumbers() {
        FourYearsForAStrip x = Check.ruled("digs 9; weeds 12; stays 99;", 0, 9);
        x.give(0, 2);
        x.set(6, 0, 36);
        Gardens.write(x, 0, 0, 47);
        // TENANT 9; PENSIONER 18 less 36 by 4; HEIR 9 and 0
        CHECK.due("19: kinds", x.tells(0, 2, 4), 0b011001);
        CHECK.due("19: numbers of a TENANT", x.tells(0, 2, 5), 1023);
        CHECK.due("19: nobody has it", x.tells(0, 1, 4), 0);
        CHECK.due("19: nobody has it", x.tells(0, 1, 5), 0);
        CHECK.due("19: as it was", x.told(0, 9), 0);
        CHECK.due("19: as it was", x.told(0, 5), 9);
        FourYearsForAStrip y = Check.with(4, 2, 5, 0, 3, 3);
        y.give(0, 2);
        y.give(1, 3);
        Gardens.write(y, 0, 1, 45);
        CHECK.due("19: numbers of a HEIR", y.tells(0, 2, 5), 1 << 7);
        CHECK.due("19: kinds, number 2", y.tells(0, 2, 4), 0);
        Gardens.write(y, 0, 1, 44);
        CHECK.due("19: a FENCER", y.tells(0, 3, 4), 1 << 5);
        Gardens.write(y, 0, 1);
        CHECK.due("19: all kinds", y.tells(0, 2, 4), 63);
        CHECK.due("19: all numbers", y.tells(0, 2, 5), 1023);
        CHECK.due("19: nobody has it, nothing told", y.tells(0, 5, 4), 0);
        CHECK.due("19: nobody has it, nothing told", y.tells(0, 5, 5), 0);
        FourYearsForAStrip z = Check.ruled("digs number; weeds 0; stays 99;", 0, 3);
        z.give(0, 0);
        Gardens.write(z, 0, 1, 54, 58);
        CHECK.due("19: a name's number", z.tells(0, 0, 5), 1 << 4);
    }

    private static void sorts() {
        FourYearsForAStrip x = Check.with(0, 0);
        x.give(0, 2);
        Gardens.write(x, 0, 0, 47 + 256, 44 - 256);
        CHECK.due("19: bytes", x.tells(0, 2, 0), -1);
        Gardens.write(x, 0, 1, 47 + 65536, 44 - 65536);
        CHECK.due("19: shorts", x.tells(0, 2, 0), -1);
        Gardens.write(x, 0, 1, 47 + 256);
        CHECK.due("19: shorts have more bits", x.tells(0, 2, 0), 0);
        Gardens.write(x, 0, 2, 47 + 65536);
        CHECK.due("19: ints have more bits", x.tells(0, 2, 0), 0);
    }

    private static void tellsRefuses() {
        FourYearsForAStrip x = Check.with(0, 0);
        x.sheet(0, 0, 30);
        x.sheet(1, 0, 31);
        CHECK.due("19: sheet -1", x.tells(-1, 0, 0), -2);
        CHECK.due("19: sheet 4", x.tells(4, 0, 0), -2);
        CHECK.due("19: strip -1", x.tells(0, -1, 0), -2);
        CHECK.due("19: strip 6", x.tells(0, 6, 0), -2);
        CHECK.due("19: what -1", x.tells(0, 0, -1), -2);
        CHECK.due("19: what 6", x.tells(0, 0, 6), -2);
        CHECK.due("19: missing", x.tells(2, 0, 0), -11);
        CHECK.due("19: missing, and no strip", x.tells(2, 6, 0), -2);
        CHECK.due("19: missing, and no what", x.tells(2, 0, 6), -2);
        for (int what = 0; what < 6; what++) {
            CHECK.due("19: 31", x.tells(1, 0, what), -2);
        }
        CHECK.due("19: 30", x.tells(0, 0, 0), 0);
    }

    private static void film() {
        FourYearsForAStrip x = Check.with(0, 0);
        x.give(0, 2);
        CHECK.due("20: film", x.film(1, 2, 30), 30);
        CHECK.due("20: it is so", x.tells(1, 2, 0), -1);
        x.sheet(0, 0, 2);
        CHECK.due("20: bytes", x.copy(1, 0, 0, 0, 2), 2);
        CHECK.due("20: the first, the second", x.tells(0, 2, 0), -1);
        Gardens.write(x, 3, 2, 47, 44);
        CHECK.due("20: as is due", x.tells(3, 2, 0), -1);
        CHECK.due("20: 30 of them", x.cell(1, 29, 0), 1);
        CHECK.due("20: no more", x.cell(1, 30, 0), -12);
        CHECK.due("20: over ints", x.film(3, 2, 1), 1);
        CHECK.due("20: bytes now", x.copy(3, 0, 0, 0, 1), 1);
        CHECK.due("20: one", x.cell(3, 1, 0), -12);
        CHECK.due("20: none", x.film(3, 2, 0), 0);
        CHECK.due("20: an empty row", x.cell(3, 0, 0), -12);
        CHECK.due("20: in thought", x.count(4), 0);
        CHECK.due("20: sheet -1", x.film(-1, 0, 0), -2);
        CHECK.due("20: sheet 4", x.film(4, 0, 0), -2);
        CHECK.due("20: strip -1", x.film(2, -1, 0), -2);
        CHECK.due("20: strip 6", x.film(2, 6, 0), -2);
        CHECK.due("20: n -1", x.film(2, 0, -1), -2);
        CHECK.due("20: n 31", x.film(2, 0, 31), -2);
        CHECK.due("20: nothing came of it", x.cell(2, 0, 0), -11);
    }

    /** Six strips that nobody has, by weeds 12, in numbers of other sizes than the program's. */
    private static long drawnBy(long seed, int n) {
        long[] level = {50, 50, 50, 50, 50, 50};
        long z = seed;
        for (int i = 0; i < n; i++) {
            for (int strip = 0; strip < 6; strip++) {
                z = (z * 1103515245L + 12345L) & 0xFFFFFFFFL;
                level[strip] = Math.max(0, Math.max(0, level[strip] - (z / 512) % 20) - 12);
            }
        }
        long together = 0;
        for (long l : level) {
            together += l;
        }
        return together;
    }

    private static void drawn() {
        FourYearsForAStrip x = new FourYearsForAStrip();
        for (int seed : new int[] {0, 1, -1, 7, 123456789, -987654321, Integer.MAX_VALUE, Integer.MIN_VALUE}) {
            for (int n = 0; n < 4; n++) {
                CHECK.due("21: drawn(" + seed + ", " + n + ")", x.drawn(seed, n), drawnBy(seed, n));
            }
        }
        CHECK.due("21: n -1", x.drawn(0, -1), -2);
        CHECK.due("21: n 31", x.drawn(0, 31), -2);
        CHECK.due("21: n 30", x.drawn(0, 30), 0);
        CHECK.due("21: in thought", x.told(0, 3), 50);
        FourYearsForAStrip y = Check.ruled("digs level; weeds 0; stays 99;", 0, 0);
        y.give(0, 0);
        // by seed 0 the first is 12345 / 512, 24, of which 4: ahead of the year, so 46 and 46 more
        y.set(3, 0, 20);
        CHECK.due("21: ahead of the year", y.drawn(0, 1) - (drawnFrom(0) - 16), 32);
    }

    /** Strips at 20, 50, .. behind one year's draws alone. */
    private static long drawnFrom(long seed) {
        long z = seed;
        long together = 0;
        for (int strip = 0; strip < 6; strip++) {
            z = (z * 1103515245L + 12345L) & 0xFFFFFFFFL;
            together += Math.max(0, (strip == 0 ? 20 : 50) - (z / 512) % 20);
        }
        return together;
    }

    private static void chance() {
        FourYearsForAStrip x = Check.ruled("digs 18; weeds 9; stays 99;", 0, 0, 0, 0);
        x.give(0, 0);
        x.give(1, 1);
        for (int m = 1; m <= 20; m++) {
            int k = 110 + m;
            int seed = m % 2 == 0 ? Integer.MAX_VALUE - 3 : m;
            long hits = 0;
            for (int i = 0; i < m; i++) {
                hits += x.drawn(seed + i, 10) >= k ? 1 : 0;
            }
            long above = x.chance(seed, m, k, 0);
            long below = x.chance(seed, m, k, 1);
            CHECK.due("22: as many", above * m, hits * below);
            CHECK.holds("22: in lowest terms", lowest(above, below));
        }
        int well = x.drawn(5, 10);
        CHECK.due("22: k or more", x.chance(5, 1, well, 0), 1);
        CHECK.due("22: not more than k", x.chance(5, 1, well + 1, 0), 0);
        CHECK.due("22: 0 .. above", x.chance(5, 20, 594, 0), 0);
        CHECK.due("22: .. 1 below", x.chance(5, 20, 594, 1), 1);
        CHECK.due("22: 1 .. above", x.chance(5, 20, 0, 0), 1);
        CHECK.due("22: .. 1 below", x.chance(5, 20, 0, 1), 1);
        long no = -4611686018427387904L;
        CHECK.due("22: m 0", x.chance(0, 0, 0, 0), no);
        CHECK.due("22: m 21", x.chance(0, 21, 0, 0), no);
        CHECK.due("22: k -1", x.chance(0, 1, -1, 0), no);
        CHECK.due("22: k 595", x.chance(0, 1, 595, 0), no);
        CHECK.due("22: part -1", x.chance(0, 1, 0, -1), no);
        CHECK.due("22: part 2", x.chance(0, 1, 0, 2), no);
        CHECK.due("22: in thought", x.count(4), 0);
    }

    private static boolean lowest(long above, long below) {
        for (long d = 2; d <= 20; d++) {
            if (above % d == 0 && below % d == 0) {
                return false;
            }
        }
        return below >= 1;
    }

    /** Numbers for all that an image keeps: few enough that an object can be asked for them six times. */
    private static String all(FourYearsForAStrip x) {
        StringBuilder told = new StringBuilder();
        for (int what = 0; what < 8; what++) {
            // texts and the tape aren't kept
            if (what != 5 && what != 6) {
                told.append(x.count(what)).append(' ');
            }
        }
        told.append(x.told(0, 1)).append(' ').append(x.told(0, 2)).append(' ');
        for (int what = 3; what < 14; what++) {
            for (int of = 0; of < 6; of++) {
                told.append(x.told(of, what)).append(' ');
            }
        }
        return told.toString();
    }

    private static void image() {
        FourYearsForAStrip x = Check.with(0, 1, 1, 2, 2, 3, 3, 4);
        CHECK.due("24: there is none", x.back(), -3);
        x.give(0, 0);
        x.give(1, 1);
        x.set(6, 1, 5);
        x.set(7, 1, 2);
        x.set(8, 2, 8);
        x.strikeOff(3);
        x.set(0, 0, 12);
        String was = all(x);
        CHECK.due("23: image", x.image(), 4);
        CHECK.holds("23: all is as it was", was.equals(all(x)));
        x.set(0, 0, 40);
        x.set(1, 0, 41);
        x.set(2, 0, 4);
        x.set(3, 5, 43);
        x.set(4, 4, 1);
        x.set(5, 0, 9);
        x.set(6, 0, 45);
        x.set(7, 0, 1);
        x.set(8, 2, 46);
        x.give(2, 3);
        x.strikeOff(1);
        x.force(Check.read(x, "digs 1; weeds 2; stays 3;"));
        x.feed('d');
        x.sheet(2, 0, 1);
        CHECK.holds("24: all is otherwise", !was.equals(all(x)));
        CHECK.due("24: back", x.back(), 4);
        CHECK.holds("24: all is as it was", was.equals(all(x)));
        CHECK.due("24: the text stays", x.count(5), 2);
        CHECK.due("24: the tape stays", x.count(6), 1);
        CHECK.due("24: the sheet stays", x.cell(2, 0, 0), 1);
        x.year();
        CHECK.due("24: again", x.back(), 4);
        CHECK.holds("24: all is as it was", was.equals(all(x)));
    }

    private static void laterImage() {
        FourYearsForAStrip x = Check.with(0, 1, 1, 2, 2, 3, 3, 4);
        x.image();
        x.year();
        String later = all(x);
        CHECK.due("23: a later one", x.image(), 4);
        x.year();
        x.back();
        CHECK.holds("24: as in the later one", later.equals(all(x)));
    }

    private static void imageAndNewPeople() {
        FourYearsForAStrip x = Check.with(0, 1);
        x.image();
        x.tenant(1, 2);
        x.tenant(2, 3);
        x.give(1, 4);
        CHECK.due("24: who came since go", x.back(), 1);
        CHECK.due("24: none such", x.told(1, 9), -2);
        CHECK.due("24: nobody has it", x.told(4, 11), -1);
        CHECK.due("24: a new one", x.tenant(5, 6), 1);
        CHECK.due("24: its kind", x.told(1, 9), 5);
        CHECK.due("24: it waits", x.told(1, 10), -1);
        CHECK.due("24: for 0 years", x.told(1, 8), 0);
        FourYearsForAStrip y = new FourYearsForAStrip();
        CHECK.due("23: nobody", y.image(), 0);
        y.tenant(0, 0);
        CHECK.due("24: nobody", y.back(), 0);
        CHECK.due("24: count", y.count(0), 0);
    }

    private static void count() {
        FourYearsForAStrip x = Check.with(0, 0, 0, 0, 0, 0, 0, 0, 0, 0, 0, 0);
        x.give(0, 0);
        x.give(1, 1);
        x.give(2, 2);
        x.strikeOff(5);
        x.set(0, 0, 17);
        x.force(Check.read(x, "digs 1; weeds 2; stays 3;"));
        x.feed(0);
        x.feed(0);
        x.feed(0);
        int[] due = {6, 3, 2, 1, 17, 2, 3, 1};
        for (int what = 0; what < due.length; what++) {
            CHECK.due("25: count(" + what + ")", x.count(what), due[what]);
        }
        CHECK.due("25: -1", x.count(-1), -2);
        CHECK.due("25: 8", x.count(8), -2);
        CHECK.due("25: MIN", x.count(Integer.MIN_VALUE), -2);
    }
}
