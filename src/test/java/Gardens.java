/** Gardens with something of everything in them, and all that can be seen of one. */
final class Gardens {
    private Gardens() {
    }

    /**
     * Six people: 0 and 1 have strips 0 and 1; 2, 3 and 5 wait; 4, who had strip 2, is gone. Strips 2 to 5 are free,
     * 3 is wet. Two texts; a tape begun; sheets of 5 bytes, 3 ints, 31 shorts, and a missing one; an image of earlier.
     */
    static FourYearsForAStrip some() {
        FourYearsForAStrip x = Check.with(0, 3, 1, 4, 2, 5, 3, 6, 4, 7, 5, 9);
        x.give(0, 0);
        x.give(1, 1);
        x.give(4, 2);
        x.set(8, 2, 7);
        x.set(8, 3, 2);
        x.image();
        x.strikeOff(4);
        x.set(0, 0, 12);
        x.set(1, 0, 40);
        x.set(2, 0, 4);
        x.set(3, 0, 61);
        x.set(3, 1, 72);
        x.set(3, 5, 33);
        x.set(4, 3, 1);
        x.set(6, 0, 5);
        x.set(7, 0, 1);
        x.set(6, 1, 12);
        x.set(7, 1, 2);
        x.force(Check.read(x, "digs 7;weeds 5;stays 30;"));
        fed(x, "digs 1;");
        x.film(0, 0, 5);
        write(x, 1, 2, 81, 90, 99);
        x.sheet(2, 1, 31);
        return x;
    }

    /** As some(), with two more who wait: no room for people. */
    static FourYearsForAStrip crowded() {
        FourYearsForAStrip x = some();
        x.tenant(0, 1);
        x.tenant(1, 2);
        return x;
    }

    /** As some(), in the year 999. */
    static FourYearsForAStrip late() {
        FourYearsForAStrip x = some();
        x.set(0, 0, 999);
        return x;
    }

    static FourYearsForAStrip untouched() {
        return new FourYearsForAStrip();
    }

    static FourYearsForAStrip fed(FourYearsForAStrip x, String letters) {
        for (int i = 0; i < letters.length(); i++) {
            x.feed(letters.charAt(i));
        }
        return x;
    }

    static void write(FourYearsForAStrip x, int sheet, int sort, int... cells) {
        x.sheet(sheet, sort, cells.length);
        for (int i = 0; i < cells.length; i++) {
            x.cell(sheet, i, cells[i]);
        }
    }

    /** What a garden is, and what the image of it is: to be asked last, for it reads the tape and goes back. */
    static String seen(FourYearsForAStrip x) {
        StringBuilder all = new StringBuilder();
        state(x, all);
        sheets(x, all);
        all.append("text ").append(x.text());
        all.append(" back ").append(x.back()).append(' ');
        state(x, all);
        return all.toString();
    }

    private static void state(FourYearsForAStrip x, StringBuilder all) {
        for (int what = 0; what < 8; what++) {
            all.append(x.count(what)).append(' ');
        }
        all.append(x.told(0, 1)).append(' ').append(x.told(0, 2)).append(' ');
        for (int strip = 0; strip < 6; strip++) {
            all.append(x.told(strip, 3)).append(' ').append(x.told(strip, 4)).append(' ');
        }
        int people = x.count(0);
        for (int one = 0; one < people; one++) {
            for (int what : new int[] {5, 6, 7, 8, 9, 10, 12, 13}) {
                all.append(x.told(one, what)).append(' ');
            }
            all.append(x.list(one)).append(' ');
        }
    }

    /** Of each its sort, its size, and whether it tells strip 0 still. */
    private static void sheets(FourYearsForAStrip x, StringBuilder all) {
        for (int sheet = 0; sheet < 4; sheet++) {
            for (int sort = 0; sort < 3; sort++) {
                all.append(x.tenants(sheet, sort, 0, 0)).append(' ');
            }
            int size = 0;
            while (size < 41 && x.copy(sheet, size, sheet, size, 0) == 0) {
                size++;
            }
            all.append(size).append(' ').append(x.tells(sheet, 0, 0)).append(' ').append(x.tells(sheet, 1, 0)).append(' ');
        }
    }
}
