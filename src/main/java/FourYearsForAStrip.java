import java.util.Arrays;

/**
 * Six strips of a garden, the people who have one or wait for one, and the years that pass over them.
 * What each call answers stands in the project's document, promise by promise.
 */
public final class FourYearsForAStrip {
    public static final int NONE = -1, BAD = -2, STATE = -3, FULL = -4;
    public static final long NO = -4611686018427387904L;

    private static final int NOTHING_THERE = -11, OUTSIDE = -12, OTHER_SORT = -13, SIZE_BELOW_ZERO = -14;

    private static final int STRIPS = 6, PEOPLE_MOST = 8, KINDS = 6, NUMBERS = 10;
    private static final int LEVEL_MOST = 99, YEARS_MOST = 999, LETTERS_MOST = 9, SPAN_MOST = 30;
    private static final int WAITING = NONE, GONE = -5;

    private static final int TENANT = 0, KEEN = 1, IDLE = 2, PENSIONER = 3, HEIR = 4, FENCER = 5;
    /** For each kind the one that it stands under; NONE for the first. */
    private static final int[] UNDER = {NONE, TENANT, TENANT, KEEN, IDLE, TENANT};

    private static final int TAPE_MOST = 160, TEXTS_MOST = 6, PARTS = 3, OPEN_MOST = 5, DIGITS_MOST = 4;
    private static final int DIGS_PART = 0, WEEDS_PART = 1, STAYS_PART = 2;

    /** Tokens; a sign stands for itself, a name for its code. Where END or NO_TOKEN stands no other may. */
    private static final int END = 0, NO_TOKEN = 1, A_NUMBER = 2;
    /** The keys of the three parts are numbered as the parts are. */
    private static final int KEY_DIGS = 201, KEY_WEEDS = 202, KEY_STAYS = 203, KEY_OR = 204, KEY_AND = 205, KEY_NOT = 206;

    /** Codes of a text that was read: names are NAME_FIRST and below, a number is its own code. */
    private static final int NAME_FIRST = -1, NAMES = 6;
    private static final int DO_OR = -11, DO_AND = -12, DO_NOT = -13, DO_LESS = -14, DO_SAME = -15;
    private static final int DO_PLUS = -16, DO_MINUS = -17, DO_TIMES = -18, DO_NEGATE = -19;
    /** Six levels of a text, each with five operands at most that wait for their sign, and some to spare. */
    private static final int STACK_MOST = 64;

    private static final int SHEETS = 4, CELLS_MOST = 40, MISSING = -1, BYTES = 0, SHORTS = 1, INTS = 2;

    private static final int SEEDS_MOST = 20, CHANCE_YEARS = 10, WELL_MOST = STRIPS * LEVEL_MOST, DRAWN_BELOW = 20;

    private final Book book;
    private final Tape tape;
    private final Reader reader;
    private final Garden now;
    private final Garden thought;
    private final Garden kept;
    private final Rows rows;
    private final Best best;
    private boolean hasImage;

    public FourYearsForAStrip() {
        book = new Book();
        tape = new Tape();
        reader = new Reader(tape, book);
        now = new Garden(book);
        thought = new Garden(book);
        kept = new Garden(book);
        rows = new Rows();
        best = new Best();
        hasImage = false;
    }

    // ---- strips, people

    public int set(int what, int of, int v) {
        if (!mayBe(what, v) || !isKnown(what, of)) {
            return BAD;
        }
        int was = valueOf(what, of);
        switch (what) {
            case 0: now.year = v; break;
            case 1: now.limit = v; break;
            case 2: now.letters = v; break;
            case 3: now.tended[of] = v; break;
            case 4: now.wet[of] = v; break;
            case 5: now.number[of] = v; break;
            case 6: now.held[of] = v; break;
            case 7: now.warned[of] = v; break;
            default: now.waited[of] = v; break;
        }
        return was;
    }

    public int tenant(int kind, int number) {
        if (!isWithin(kind, 0, KINDS - 1) || !isWithin(number, 0, NUMBERS - 1)) {
            return BAD;
        }
        return now.comes(kind, number);
    }

    public int told(int of, int what) {
        return isKnown(what, of) ? valueOf(what, of) : BAD;
    }

    public int give(int one, int strip) {
        if (!now.isPerson(one) || !isStrip(strip)) {
            return BAD;
        }
        if (now.place[one] != WAITING) {
            return STATE;
        }
        if (now.holder(strip) != NONE) {
            return FULL;
        }
        now.moveIn(one, strip);
        return strip;
    }

    public int strikeOff(int one) {
        if (!now.isPerson(one)) {
            return BAD;
        }
        int had = now.place[one];
        if (had == GONE) {
            return STATE;
        }
        now.place[one] = GONE;
        return had;
    }

    public int list(int k) {
        return now.listed(k);
    }

    // ---- texts

    public int feed(int letter) {
        if (!isWithin(letter, 0, 255)) {
            return BAD;
        }
        return tape.add(letter);
    }

    public int text() {
        if (book.isFull()) {
            return FULL;
        }
        tape.split();
        int fault = reader.readText();
        tape.clear();
        if (fault != NONE) {
            book.dropUnfinished();
            return -100 - fault;
        }
        return book.finish();
    }

    public int force(int text) {
        if (!isWithin(text, 0, book.texts - 1)) {
            return BAD;
        }
        int was = now.rule;
        now.rule = text;
        return was;
    }

    // ---- years

    public int year() {
        if (now.year >= YEARS_MOST) {
            return STATE;
        }
        now.passYear();
        return now.peopleAt(GONE);
    }

    public int run(int n, int what) {
        if (!isSpan(n) || !mayRunTell(what)) {
            return BAD;
        }
        int well = wellAsNow(n);
        switch (what) {
            case 0: return thought.freeStrips();
            case 1: return thought.stripsBelowLimit();
            case 2: return thought.peopleAt(GONE);
            case 3: return thought.peopleAt(WAITING);
            case 4: return well;
            default: return ranTo(what / 10, what % 10);
        }
    }

    public int takes(int one) {
        if (!now.isPerson(one)) {
            return BAD;
        }
        thought.become(now);
        for (int years = 0; years < SPAN_MOST; years++) {
            if (thought.place[one] != WAITING) {
                return years;
            }
            thought.passYear();
        }
        return thought.place[one] != WAITING ? SPAN_MOST : NONE;
    }

    // ---- what would be best

    public int strict(int n, int what) {
        if (!isSpan(n) || !isFoundOrWell(what)) {
            return BAD;
        }
        best.start(NONE);
        for (int limit = 0; limit <= LEVEL_MOST; limit++) {
            thought.become(now);
            thought.limit = limit;
            best.offer(limit, thought.wellAfter(n));
        }
        return best.answer(what);
    }

    public int outOfTurn(int strip, int n, int what) {
        if (!isStrip(strip) || !isSpan(n) || !isFoundOrWell(what)) {
            return BAD;
        }
        if (now.holder(strip) != NONE) {
            return STATE;
        }
        // Somebody is named even if it makes things worse: so nothing is set against those who wait.
        best.start(now.peopleAt(WAITING) > 0 ? NONE : wellAsNow(n));
        for (int one = 0; one < now.people; one++) {
            if (now.place[one] == WAITING) {
                thought.become(now);
                thought.moveIn(one, strip);
                best.offer(one, thought.wellAfter(n));
            }
        }
        return best.answer(what);
    }

    public int drain(int n, int what) {
        if (!isSpan(n) || !isFoundOrWell(what)) {
            return BAD;
        }
        best.start(wellAsNow(n));
        for (int strip = 0; strip < STRIPS; strip++) {
            if (now.wet[strip] != 0) {
                thought.become(now);
                thought.wet[strip] = 0;
                best.offer(strip, thought.wellAfter(n));
            }
        }
        return best.answer(what);
    }

    public int strike(int n, int what) {
        if (!isSpan(n) || !isFoundOrWell(what)) {
            return BAD;
        }
        best.start(wellAsNow(n));
        for (int one = 0; one < now.people; one++) {
            if (now.place[one] != GONE) {
                thought.become(now);
                thought.place[one] = GONE;
                best.offer(one, thought.wellAfter(n));
            }
        }
        return best.answer(what);
    }

    public int change(int n, int what) {
        if (!isSpan(n) || !isFoundOrWell(what)) {
            return BAD;
        }
        best.start(wellAsNow(n));
        for (int one = 0; one < now.people; one++) {
            for (int other = one + 1; other < now.people; other++) {
                if (now.hasStrip(one) && now.hasStrip(other)) {
                    thought.become(now);
                    thought.place[one] = now.place[other];
                    thought.place[other] = now.place[one];
                    best.offer(10 * one + other, thought.wellAfter(n));
                }
            }
        }
        return best.answer(what);
    }

    // ---- years that were told

    public int tells(int sheet, int strip, int what) {
        if (!isSheet(sheet) || !isStrip(strip) || !isWithin(what, 0, 5)) {
            return BAD;
        }
        if (rows.isMissing(sheet)) {
            return NOTHING_THERE;
        }
        if (rows.size[sheet] > SPAN_MOST) {
            return BAD;
        }
        if (what == 0) {
            thought.become(now);
            return firstOtherwise(sheet, strip);
        }
        return whatFits(sheet, strip, what);
    }

    public int film(int sheet, int strip, int n) {
        if (!isSheet(sheet) || !isStrip(strip) || !isSpan(n)) {
            return BAD;
        }
        rows.lay(sheet, BYTES, n);
        thought.become(now);
        for (int i = 0; i < n; i++) {
            thought.passYear();
            rows.put(sheet, i, thought.tended[strip]);
        }
        return n;
    }

    public int drawn(int seed, int n) {
        return isSpan(n) ? wellDrawn(seed, n) : BAD;
    }

    public long chance(int seed, int m, int k, int part) {
        if (!isWithin(m, 1, SEEDS_MOST) || !isWithin(k, 0, WELL_MOST) || !isWithin(part, 0, 1)) {
            return NO;
        }
        int hits = 0;
        for (int i = 0; i < m; i++) {
            if (wellDrawn(seed + i, CHANCE_YEARS) >= k) {
                hits++;
            }
        }
        int shared = sharedDivisor(hits, m);
        return part == 0 ? hits / shared : m / shared;
    }

    public int image() {
        kept.become(now);
        hasImage = true;
        return kept.people;
    }

    public int back() {
        if (!hasImage) {
            return STATE;
        }
        now.become(kept);
        return now.people;
    }

    public int count(int what) {
        switch (what) {
            case 0: return now.people;
            case 1: return now.people - now.peopleAt(WAITING) - now.peopleAt(GONE);
            case 2: return now.peopleAt(WAITING);
            case 3: return now.peopleAt(GONE);
            case 4: return now.year;
            case 5: return book.texts;
            case 6: return tape.size;
            case 7: return now.rule;
            default: return BAD;
        }
    }

    // ---- the host

    public int sheet(int sheet, int sort, int n) {
        if (!isSheet(sheet) || !isWithin(sort, MISSING, INTS)) {
            return BAD;
        }
        if (sort == MISSING) {
            rows.lay(sheet, MISSING, 0);
            return 1;
        }
        if (n > CELLS_MOST) {
            return BAD;
        }
        if (n < 0) {
            return SIZE_BELOW_ZERO;
        }
        rows.lay(sheet, sort, n);
        return 1;
    }

    public int cell(int sheet, int i, int v) {
        if (!isSheet(sheet)) {
            return BAD;
        }
        if (rows.isMissing(sheet)) {
            return NOTHING_THERE;
        }
        if (!isWithin(i, 0, rows.size[sheet] - 1)) {
            return OUTSIDE;
        }
        rows.put(sheet, i, v);
        return 1;
    }

    public int copy(int sheet, int i, int other, int j, int n) {
        if (!isSheet(sheet) || !isSheet(other)) {
            return BAD;
        }
        if (rows.isMissing(sheet) || rows.isMissing(other)) {
            return NOTHING_THERE;
        }
        if (rows.sort[sheet] != rows.sort[other]) {
            return OTHER_SORT;
        }
        if (!rows.holds(sheet, i, n) || !rows.holds(other, j, n)) {
            return OUTSIDE;
        }
        rows.move(sheet, i, other, j, n);
        return n;
    }

    public int tenants(int sheet, int sort, int from, int n) {
        if (!isSheet(sheet) || !isWithin(sort, BYTES, INTS) || !isWithin(n, 0, PEOPLE_MOST)) {
            return BAD;
        }
        // A missing row can be taken for one of any sort: it is missed only when it is read.
        if (rows.isMissing(sheet)) {
            return NOTHING_THERE;
        }
        if (rows.sort[sheet] != sort) {
            return OTHER_SORT;
        }
        int came = 0;
        for (int i = 0; i < n; i++) {
            if (from < 0 || from >= rows.size[sheet] - 1 - 2 * i) {
                return OUTSIDE;
            }
            int first = from + 2 * i;
            if (tenant(rows.at(sheet, first), rows.at(sheet, first + 1)) >= 0) {
                came++;
            }
        }
        return came;
    }

    public int taken(int one, int k) {
        if (!isWithin(k, 0, KINDS - 1)) {
            return BAD;
        }
        if (!now.isPerson(one)) {
            return NOTHING_THERE;
        }
        return isOfKind(now.kind[one], k) ? now.number[one] : OTHER_SORT;
    }

    // ---- what calls are asked with

    private static boolean isWithin(int v, int least, int most) {
        return v >= least && v <= most;
    }

    private static boolean isStrip(int strip) {
        return isWithin(strip, 0, STRIPS - 1);
    }

    private static boolean isSheet(int sheet) {
        return isWithin(sheet, 0, SHEETS - 1);
    }

    private static boolean isSpan(int n) {
        return isWithin(n, 0, SPAN_MOST);
    }

    private static boolean isFoundOrWell(int what) {
        return isWithin(what, 0, 1);
    }

    /** Whether set() may make what become v. */
    private static boolean mayBe(int what, int v) {
        switch (what) {
            case 0: return isWithin(v, 0, YEARS_MOST);
            case 1: return isWithin(v, 0, LEVEL_MOST);
            case 2: return isWithin(v, 1, LETTERS_MOST);
            case 3: return isWithin(v, 0, LEVEL_MOST);
            case 4: return isWithin(v, 0, 1);
            case 5: return isWithin(v, 0, NUMBERS - 1);
            case 6: return isWithin(v, 0, YEARS_MOST);
            case 7: return isWithin(v, 0, LETTERS_MOST);
            case 8: return isWithin(v, 0, YEARS_MOST);
            default: return false;
        }
    }

    /** Whether there is what to tell of that strip or person. */
    private boolean isKnown(int what, int of) {
        switch (what) {
            case 0: case 1: case 2: return true;
            case 3: case 4: case 11: return isStrip(of);
            case 5: case 9: case 10: return now.isPerson(of);
            case 6: case 7: case 12: case 13: return now.isPerson(of) && now.hasStrip(of);
            case 8: return now.isPerson(of) && now.place[of] == WAITING;
            default: return false;
        }
    }

    /** Asked only behind isKnown(what, of). */
    private int valueOf(int what, int of) {
        switch (what) {
            case 0: return now.year;
            case 1: return now.limit;
            case 2: return now.letters;
            case 3: return now.tended[of];
            case 4: return now.wet[of];
            case 5: return now.number[of];
            case 6: return now.held[of];
            case 7: return now.warned[of];
            case 8: return now.waited[of];
            case 9: return now.kind[of];
            case 10: return now.place[of];
            case 11: return now.holder(of);
            case 12: return now.effort(of, now.ask(DIGS_PART, now.place[of], of));
            default: return now.remains(of, now.ask(STAYS_PART, now.place[of], of)) ? 1 : 0;
        }
    }

    private boolean mayRunTell(int what) {
        return isWithin(what, 0, 4) || isWithin(what, 10, 9 + STRIPS) || isWithin(what, 20, 19 + STRIPS)
            || isWithin(what, 30, 29 + now.people);
    }

    /** Asked only behind mayRunTell(). */
    private int ranTo(int tens, int of) {
        switch (tens) {
            case 1: return isStrip(of) ? thought.tended[of] : BAD;
            case 2: return thought.holder(of);
            default: return thought.isPerson(of) ? thought.place[of] : BAD;
        }
    }

    private static boolean isOfKind(int kind, int sought) {
        int above = kind;
        for (int i = 0; i < KINDS && isWithin(above, 0, KINDS - 1); i++) {
            if (above == sought) {
                return true;
            }
            above = UNDER[above];
        }
        return false;
    }

    // ---- thoughts

    private int wellAsNow(int n) {
        thought.become(now);
        return thought.wellAfter(n);
    }

    private int wellDrawn(int seed, int n) {
        int z = seed;
        thought.become(now);
        for (int i = 0; i < n; i++) {
            for (int strip = 0; strip < STRIPS; strip++) {
                z = z * 1103515245 + 12345;
                thought.wither(strip, (z >>> 9) % DRAWN_BELOW);
            }
            thought.passYear();
        }
        return thought.tendedWell();
    }

    /** Of hits (0 or more) and m (1 or more): 1 at least. */
    private static int sharedDivisor(int hits, int m) {
        for (int d = m; d > 1; d--) {
            if (hits % d == 0 && m % d == 0) {
                return d;
            }
        }
        return 1;
    }

    /** The thought garden is made ready by the caller; a sheet here tells 30 at most. */
    private int firstOtherwise(int sheet, int strip) {
        for (int i = 0; i < rows.size[sheet]; i++) {
            thought.passYear();
            if (thought.tended[strip] != rows.at(sheet, i)) {
                return i;
            }
        }
        return NONE;
    }

    /** How many there are to suppose: texts (what 1), levels (2, 3), kinds (4), numbers (5). */
    private int suppositions(int what, int holder) {
        switch (what) {
            case 1: return book.texts;
            case 2: case 3: return LEVEL_MOST + 1;
            case 4: return now.isPerson(holder) ? KINDS : 0;
            default: return now.isPerson(holder) ? NUMBERS : 0;
        }
    }

    /** Asked only of a candidate below suppositions(what, holder). */
    private void suppose(int what, int strip, int holder, int candidate) {
        thought.become(now);
        switch (what) {
            case 1: thought.rule = candidate; break;
            case 2: case 3: thought.tended[strip] = candidate; break;
            case 4: thought.kind[holder] = candidate; break;
            default: thought.number[holder] = candidate; break;
        }
    }

    /** Of those by which the sheet tells what would be: how many (what 2), the least (3), or their bits. */
    private int whatFits(int sheet, int strip, int what) {
        int holder = now.holder(strip);
        int many = suppositions(what, holder);
        int fit = 0, least = NONE, bits = 0;
        for (int candidate = 0; candidate < many; candidate++) {
            suppose(what, strip, holder, candidate);
            if (firstOtherwise(sheet, strip) == NONE) {
                fit++;
                least = least == NONE ? candidate : least;
                bits |= 1 << candidate;
            }
        }
        return what == 2 ? fit : what == 3 ? least : bits;
    }

    /** The best of what is offered, the first of like ones, and how well all is tended by it. */
    private static final class Best {
        private int found;
        private int well;

        /** Only what makes it more than this is found. */
        void start(int least) {
            found = NONE;
            well = least;
        }

        void offer(int one, int wellByIt) {
            if (wellByIt > well) {
                found = one;
                well = wellByIt;
            }
        }

        int answer(int what) {
            return what == 0 ? found : well;
        }
    }

    /** All that an image keeps: used for the garden as it is, as it is thought on, and as it was kept. */
    private static final class Garden {
        private final Book book;
        private final int[] names = new int[NAMES];
        private int year, limit, letters, rule, people;
        private final int[] tended = new int[STRIPS];
        private final int[] wet = new int[STRIPS];
        private final int[] kind = new int[PEOPLE_MOST];
        private final int[] number = new int[PEOPLE_MOST];
        /** The strip that one has, or WAITING, or GONE. */
        private final int[] place = new int[PEOPLE_MOST];
        private final int[] held = new int[PEOPLE_MOST];
        private final int[] warned = new int[PEOPLE_MOST];
        private final int[] waited = new int[PEOPLE_MOST];

        Garden(Book book) {
            this.book = book;
            limit = 30;
            letters = 3;
            Arrays.fill(tended, 50);
        }

        void become(Garden other) {
            year = other.year;
            limit = other.limit;
            letters = other.letters;
            rule = other.rule;
            people = other.people;
            System.arraycopy(other.tended, 0, tended, 0, STRIPS);
            System.arraycopy(other.wet, 0, wet, 0, STRIPS);
            System.arraycopy(other.kind, 0, kind, 0, PEOPLE_MOST);
            System.arraycopy(other.number, 0, number, 0, PEOPLE_MOST);
            System.arraycopy(other.place, 0, place, 0, PEOPLE_MOST);
            System.arraycopy(other.held, 0, held, 0, PEOPLE_MOST);
            System.arraycopy(other.warned, 0, warned, 0, PEOPLE_MOST);
            System.arraycopy(other.waited, 0, waited, 0, PEOPLE_MOST);
        }

        boolean isPerson(int one) {
            return one >= 0 && one < people && one < PEOPLE_MOST;
        }

        boolean hasStrip(int one) {
            return place[one] >= 0;
        }

        /** One more, waiting; FULL. */
        int comes(int ofKind, int withNumber) {
            int one = people;
            if (one >= PEOPLE_MOST) {
                return FULL;
            }
            kind[one] = ofKind;
            number[one] = withNumber;
            place[one] = WAITING;
            waited[one] = 0;
            people = one + 1;
            return one;
        }

        void moveIn(int one, int strip) {
            place[one] = strip;
            held[one] = 0;
            warned[one] = 0;
        }

        int holder(int strip) {
            for (int one = 0; one < people; one++) {
                if (place[one] == strip) {
                    return one;
                }
            }
            return NONE;
        }

        int peopleAt(int where) {
            int many = 0;
            for (int one = 0; one < people; one++) {
                if (place[one] == where) {
                    many++;
                }
            }
            return many;
        }

        int freeStrips() {
            int many = 0;
            for (int strip = 0; strip < STRIPS; strip++) {
                if (holder(strip) == NONE) {
                    many++;
                }
            }
            return many;
        }

        int stripsBelowLimit() {
            int many = 0;
            for (int strip = 0; strip < STRIPS; strip++) {
                if (tended[strip] < limit) {
                    many++;
                }
            }
            return many;
        }

        int tendedWell() {
            int together = 0;
            for (int strip = 0; strip < STRIPS; strip++) {
                together += tended[strip];
            }
            return together;
        }

        private boolean isAhead(int one, int other) {
            return waited[one] > waited[other] || (waited[one] == waited[other] && one < other);
        }

        private int manyAhead(int one) {
            int many = 0;
            for (int other = 0; other < people; other++) {
                if (place[other] == WAITING && isAhead(other, one)) {
                    many++;
                }
            }
            return many;
        }

        /** Who is at place k of the list. */
        int listed(int k) {
            for (int one = 0; one < people; one++) {
                if (place[one] == WAITING && manyAhead(one) == k) {
                    return one;
                }
            }
            return NONE;
        }

        private boolean bears(int one) {
            switch (kind[one]) {
                case KEEN: case PENSIONER: return false;
                case FENCER: return number[one] % 2 == 1;
                default: return true;
            }
        }

        private int firstWhoTakes(int strip) {
            int first = NONE;
            for (int one = 0; one < people; one++) {
                if (place[one] == WAITING && (wet[strip] == 0 || bears(one))
                        && (first == NONE || isAhead(one, first))) {
                    first = one;
                }
            }
            return first;
        }

        /** What the rule says of a strip and of who has it (NONE: nobody), within 0 .. 99. */
        int ask(int part, int strip, int one) {
            boolean somebody = isPerson(one);
            names[0] = somebody ? number[one] : 0;
            names[1] = year;
            names[2] = tended[strip];
            names[3] = somebody ? held[one] : 0;
            names[4] = strip;
            names[5] = somebody ? warned[one] : 0;
            return Math.max(0, Math.min(LEVEL_MOST, book.value(rule, part, names)));
        }

        /** How much one tends, by what the rule says of digs. */
        int effort(int one, int digs) {
            int ifWarned = warned[one] > 0 ? digs : 0;
            switch (kind[one]) {
                case KEEN: return 2 * digs;
                case IDLE: return ifWarned;
                case PENSIONER: return Math.max(0, 2 * digs - held[one] / 4);
                case HEIR: return number[one] + ifWarned;
                case FENCER: return Math.max(0, digs - 3);
                default: return digs;
            }
        }

        /** Whether one stays, by what the rule says of stays. */
        boolean remains(int one, int stays) {
            switch (kind[one]) {
                case KEEN: return held[one] < 2 * stays;
                case PENSIONER: return held[one] < 30;
                case HEIR: return held[one] < stays || number[one] > 6;
                case FENCER: return true;
                default: return held[one] < stays;
            }
        }

        void wither(int strip, int less) {
            tended[strip] = Math.max(0, tended[strip] - less);
        }

        private void growAndTend(int strip) {
            int one = holder(strip);
            int weeds = ask(WEEDS_PART, strip, one);
            wither(strip, wet[strip] != 0 ? 2 * weeds : weeds);
            if (one != NONE) {
                int digs = ask(DIGS_PART, strip, one);
                tended[strip] = Math.min(LEVEL_MOST, tended[strip] + effort(one, digs));
            }
        }

        private void warnOrLeave(int one, int strip) {
            if (tended[strip] < limit) {
                warned[one] = Math.min(LETTERS_MOST, warned[one] + 1);
            }
            if (warned[one] >= letters) {
                place[one] = GONE;
                return;
            }
            held[one] = Math.min(YEARS_MOST, held[one] + 1);
            if (!remains(one, ask(STAYS_PART, strip, one))) {
                place[one] = GONE;
            }
        }

        private void waitOn(int one) {
            if (place[one] == WAITING) {
                waited[one] = Math.min(YEARS_MOST, waited[one] + 1);
            }
        }

        private void handOut(int strip) {
            int one = holder(strip) == NONE ? firstWhoTakes(strip) : NONE;
            if (one != NONE) {
                moveIn(one, strip);
            }
        }

        void passYear() {
            for (int strip = 0; strip < STRIPS; strip++) {
                growAndTend(strip);
            }
            for (int one = 0; one < people; one++) {
                if (hasStrip(one)) {
                    warnOrLeave(one, place[one]);
                }
            }
            for (int one = 0; one < people; one++) {
                waitOn(one);
            }
            for (int strip = 0; strip < STRIPS; strip++) {
                handOut(strip);
            }
            year++;
        }

        int wellAfter(int n) {
            for (int i = 0; i < n; i++) {
                passYear();
            }
            return tendedWell();
        }
    }

    /** The texts that were read, one behind another, each in three parts of codes whose operands stand ahead. */
    private static final class Book {
        private final int[] codes = new int[TEXTS_MOST * TAPE_MOST];
        /** Part p of text t goes from ends[3 t + p] to ends[3 t + p + 1]. */
        private final int[] ends = new int[TEXTS_MOST * PARTS + 1];
        private final int[] stack = new int[STACK_MOST];
        private int used, parts, texts;

        Book() {
            add(9);
            endPart();
            add(12);
            endPart();
            add(20);
            endPart();
            texts = 1;
        }

        boolean isFull() {
            return texts >= TEXTS_MOST;
        }

        void add(int code) {
            if (used < codes.length) {
                codes[used] = code;
                used++;
            }
        }

        void endPart() {
            if (parts + 1 < ends.length) {
                parts++;
                ends[parts] = used;
            }
        }

        int finish() {
            texts++;
            return texts - 1;
        }

        void dropUnfinished() {
            parts = texts * PARTS;
            if (parts < ends.length) {
                used = ends[parts];
            }
        }

        int value(int text, int part, int[] names) {
            int slot = text * PARTS + part;
            if (slot < 0 || slot + 1 >= ends.length) {
                return 0;
            }
            int size = 0;
            for (int i = ends[slot]; i < ends[slot + 1] && i < codes.length; i++) {
                int code = codes[i];
                int name = NAME_FIRST - code;
                if (code >= 0 || (name < NAMES && name < names.length)) {
                    if (size < STACK_MOST) {
                        stack[size] = code >= 0 ? code : names[name];
                        size++;
                    }
                } else if (code == DO_NOT || code == DO_NEGATE) {
                    if (size > 0) {
                        stack[size - 1] = code == DO_NEGATE ? -stack[size - 1] : stack[size - 1] == 0 ? 1 : 0;
                    }
                } else if (size > 1) {
                    size--;
                    stack[size - 1] = combined(code, stack[size - 1], stack[size]);
                }
            }
            return size > 0 ? stack[size - 1] : 0;
        }

        private static int combined(int code, int a, int b) {
            switch (code) {
                case DO_OR: return a != 0 || b != 0 ? 1 : 0;
                case DO_AND: return a != 0 && b != 0 ? 1 : 0;
                case DO_LESS: return a < b ? 1 : 0;
                case DO_SAME: return a == b ? 1 : 0;
                case DO_PLUS: return a + b;
                case DO_MINUS: return a - b;
                default: return a * b;
            }
        }
    }

    /** The bytes that were fed, and the tokens that they are split into. */
    private static final class Tape {
        private final int[] bytes = new int[TAPE_MOST];
        private int size, at;
        /** Each token, where it begins, and its worth if it is a number; the last one is END. */
        private final int[] token = new int[TAPE_MOST + 1];
        private final int[] begins = new int[TAPE_MOST + 1];
        private final int[] worth = new int[TAPE_MOST + 1];
        private int tokens;

        /** How many bytes there are then; FULL. */
        int add(int letter) {
            if (size >= TAPE_MOST) {
                return FULL;
            }
            bytes[size] = letter;
            size++;
            return size;
        }

        void clear() {
            size = 0;
        }

        void split() {
            at = 0;
            tokens = 0;
            skipBlanks();
            // Every token has a byte at least.
            for (int i = 0; i < TAPE_MOST && at < size; i++) {
                int from = at;
                int read = isLetter(bytes[at]) ? readWord() : isDigit(bytes[at]) ? readNumber() : readSign();
                keep(read, from);
                skipBlanks();
            }
            keep(END, size);
        }

        private void keep(int read, int from) {
            if (tokens < token.length) {
                token[tokens] = read;
                begins[tokens] = from;
                tokens++;
            }
        }

        private void skipBlanks() {
            while (at < size && (bytes[at] == ' ' || bytes[at] == '\n')) {
                at++;
            }
        }

        private static boolean isLetter(int b) {
            return b >= 'a' && b <= 'z';
        }

        private static boolean isDigit(int b) {
            return b >= '0' && b <= '9';
        }

        private static boolean isSign(int b) {
            return b == '(' || b == ')' || b == ';' || b == '+' || b == '-' || b == '*' || b == '<' || b == '=';
        }

        private int readSign() {
            int b = bytes[at];
            at++;
            return isSign(b) ? b : NO_TOKEN;
        }

        private int readNumber() {
            int from = at;
            int value = 0;
            while (at < size && isDigit(bytes[at])) {
                value = value * 10 + bytes[at] - '0';
                at++;
            }
            if (tokens < worth.length) {
                worth[tokens] = value;
            }
            return at - from <= DIGITS_MOST ? A_NUMBER : NO_TOKEN;
        }

        private int readWord() {
            int from = at;
            while (at < size && isLetter(bytes[at])) {
                at++;
            }
            int key = keyFrom(from);
            return key != NO_TOKEN ? key : nameFrom(from);
        }

        private int keyFrom(int from) {
            return isWord("digs", from) ? KEY_DIGS : isWord("weeds", from) ? KEY_WEEDS
                : isWord("stays", from) ? KEY_STAYS : isWord("or", from) ? KEY_OR
                : isWord("and", from) ? KEY_AND : isWord("not", from) ? KEY_NOT : NO_TOKEN;
        }

        /** The codes are in the order in which ask() lays the names out. */
        private int nameFrom(int from) {
            return isWord("number", from) ? NAME_FIRST : isWord("year", from) ? NAME_FIRST - 1
                : isWord("level", from) ? NAME_FIRST - 2 : isWord("held", from) ? NAME_FIRST - 3
                : isWord("strip", from) ? NAME_FIRST - 4 : isWord("warned", from) ? NAME_FIRST - 5 : NO_TOKEN;
        }

        /** Whether the bytes from there to where the tape is read now are that word. */
        private boolean isWord(String word, int from) {
            if (at - from != word.length()) {
                return false;
            }
            for (int i = 0; i < word.length() && from + i < size; i++) {
                if (bytes[from + i] != word.charAt(i)) {
                    return false;
                }
            }
            return true;
        }
    }

    /**
     * Reads the tape's tokens as a text into the book. Once there is a fault, no token more is taken.
     * How many of ( not - are open is carried as an argument, so no text goes deeper than OPEN_MOST.
     */
    private static final class Reader {
        private final Tape tape;
        private final Book book;
        private int at;
        private int fault;

        Reader(Tape tape, Book book) {
            this.tape = tape;
            this.book = book;
        }

        /** The place of the fault; NONE. */
        int readText() {
            at = 0;
            fault = NONE;
            for (int part = 0; part < PARTS; part++) {
                expect(KEY_DIGS + part);
                either(0);
                expect(';');
                book.endPart();
            }
            if (!isNext(END)) {
                faultHere();
            }
            return fault;
        }

        private boolean isNext(int token) {
            return at < tape.tokens && tape.token[at] == token;
        }

        private boolean isNextName() {
            return at < tape.tokens && tape.token[at] <= NAME_FIRST;
        }

        private void faultHere() {
            if (fault == NONE && at < tape.tokens) {
                fault = tape.begins[at];
            }
        }

        private boolean took(int token) {
            if (fault != NONE || !isNext(token)) {
                return false;
            }
            at++;
            return true;
        }

        private void expect(int token) {
            if (!took(token)) {
                faultHere();
            }
        }

        private boolean opened(int token, int open) {
            if (isNext(token) && open >= OPEN_MOST) {
                faultHere();
            }
            return took(token);
        }

        // A tape has no more tokens than bytes: that bounds the loops below.

        private void either(int open) {
            both(open);
            for (int i = 0; i < TAPE_MOST && took(KEY_OR); i++) {
                both(open);
                book.add(DO_OR);
            }
        }

        private void both(int open) {
            denied(open);
            for (int i = 0; i < TAPE_MOST && took(KEY_AND); i++) {
                denied(open);
                book.add(DO_AND);
            }
        }

        private void denied(int open) {
            if (opened(KEY_NOT, open)) {
                denied(open + 1);
                book.add(DO_NOT);
                return;
            }
            sum(open);
            if (took('<')) {
                sum(open);
                book.add(DO_LESS);
            } else if (took('=')) {
                sum(open);
                book.add(DO_SAME);
            }
        }

        private void sum(int open) {
            product(open);
            for (int i = 0; i < TAPE_MOST && fault == NONE; i++) {
                if (took('+')) {
                    product(open);
                    book.add(DO_PLUS);
                } else if (took('-')) {
                    product(open);
                    book.add(DO_MINUS);
                } else {
                    break;
                }
            }
        }

        private void product(int open) {
            single(open);
            for (int i = 0; i < TAPE_MOST && took('*'); i++) {
                single(open);
                book.add(DO_TIMES);
            }
        }

        private void single(int open) {
            if (opened('-', open)) {
                single(open + 1);
                book.add(DO_NEGATE);
            } else if (opened('(', open)) {
                either(open + 1);
                expect(')');
            } else if (fault == NONE && isNext(A_NUMBER)) {
                book.add(tape.worth[at]);
                at++;
            } else if (fault == NONE && isNextName()) {
                book.add(tape.token[at]);
                at++;
            } else {
                faultHere();
            }
        }
    }

    /** The sheets: rows of 40 at most, kept one behind another. */
    private static final class Rows {
        private final int[] cells = new int[SHEETS * CELLS_MOST];
        private final int[] sort = new int[SHEETS];
        private final int[] size = new int[SHEETS];

        Rows() {
            Arrays.fill(sort, MISSING);
        }

        boolean isMissing(int sheet) {
            return sort[sheet] == MISSING;
        }

        void lay(int sheet, int ofSort, int n) {
            sort[sheet] = ofSort;
            size[sheet] = n;
            for (int i = 0; i < CELLS_MOST; i++) {
                cells[sheet * CELLS_MOST + i] = 0;
            }
        }

        /** Whether n items from item i on stand in the sheet. */
        boolean holds(int sheet, int i, int n) {
            return n >= 0 && i >= 0 && i <= size[sheet] - n;
        }

        int at(int sheet, int i) {
            return holds(sheet, i, 1) ? cells[sheet * CELLS_MOST + i] : 0;
        }

        void put(int sheet, int i, int v) {
            if (holds(sheet, i, 1)) {
                cells[sheet * CELLS_MOST + i] = sort[sheet] == BYTES ? (byte) v : sort[sheet] == SHORTS ? (short) v : v;
            }
        }

        void move(int sheet, int i, int other, int j, int n) {
            System.arraycopy(cells, sheet * CELLS_MOST + i, cells, other * CELLS_MOST + j, n);
        }
    }
}
