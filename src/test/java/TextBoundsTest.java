import java.util.function.Supplier;

/** The boundary cases that promises 8 to 10, and the terms of texts, name: a test for each sentence. */
public final class TextBoundsTest {
    private static final Sentences S = new Sentences();
    /** 2 to the 31st, which wraps to the least of ints. */
    private static final String LEAST = "2048*1024*1024";

    public static void main(String[] args) {
        tape();
        tokens();
        words();
        numbers();
        signs();
        blanks();
        textForm();
        orForm();
        notForm();
        sumForm();
        keys();
        wrapping();
        truth();
        faultPlace();
        faultAtTheEnd();
        faultOfBytes();
        faultOfWords();
        faultOfNumbers();
        faultOfOpen();
        openTill();
        sixTexts();
        namesOfOne();
        weedsOfNobody();
        bounds();
        textZero();
        feed();
        text();
        textIsFull();
        force();
        S.end();
    }

    private static String repeated(String s, int times) {
        StringBuilder all = new StringBuilder();
        for (int i = 0; i < times; i++) {
            all.append(s);
        }
        return all.toString();
    }

    private static String shown(String text) {
        StringBuilder all = new StringBuilder();
        for (int i = 0; i < text.length(); i++) {
            char c = text.charAt(i);
            all.append(c >= 32 && c < 127 ? "" + c : "\\" + (int) c);
        }
        return all.toString();
    }

    private static void reads(String text) {
        S.due("reads " + shown(text), Check.read(Gardens.untouched(), text), 1);
    }

    private static void fault(String text, int place) {
        S.due("fault of " + shown(text), Check.read(Gardens.untouched(), text), -100 - place);
    }

    /** The fault of an E that begins at place 5 and has another two parts behind it. */
    private static void faultOf(String e, int place) {
        fault("digs " + e + ";weeds 1;stays 1;", place);
    }

    private static void readsOf(String e) {
        reads("digs " + e + ";weeds 1;stays 1;");
    }

    /** What an E is within 0 .. 99, for a TENANT, number 7, on strip 5, level 50, in the year 0. */
    private static void is(String e, int due) {
        FourYearsForAStrip x = Check.ruled("digs " + e + ";weeds 1;stays 1;", 0, 7);
        S.due("is the rule: " + e, x.count(7), 1);
        x.give(0, 5);
        S.due(e, x.told(0, 12), due);
    }

    // ---- terms

    private static void tape() {
        S.of(0, "A TEXT is read from THE TAPE (160 bytes at most).");
        String text = "digs 1;weeds 1;stays 1;";
        reads(text + repeated(" ", 160 - text.length()));
        reads(repeated("\n", 160 - text.length()) + text);
        fault(text + repeated(" ", 159 - text.length()) + "x", 159);
        fault("digs 1;weeds 1;stays " + repeated("1+", 69) + "1", 160);
        FourYearsForAStrip x = Gardens.fed(Gardens.untouched(), text + repeated(" ", 160 - text.length()));
        S.due("160", x.count(6), 160);
        S.due("one more", x.feed(';'), -4);
        S.due("is a text still", x.text(), 1);
    }

    private static void tokens() {
        S.of(0, "TOKENS, each as long as can be");
        fault("digsweeds 1;weeds 1;stays 1;", 0);
        faultOf("yearheld", 5);
        faultOf("notyear", 5);
        faultOf("99999", 5);
        readsOf("1or2");
        reads("digs1;weeds1;stays1;");
        reads("digs(1);weeds(1);stays(1);");
        readsOf("1 or(2)and(3)or not(4)");
    }

    private static void words() {
        S.of(0, "WORDS (a .. z)");
        faultOf("`", 5);
        faultOf("{", 5);
        faultOf("Year", 5);
        faultOf("yeaR", 5);
        faultOf("year_", 9);
        faultOf("a", 5);
        faultOf("z", 5);
        faultOf("yeara", 5);
        faultOf("yearz", 5);
        faultOf("ayear", 5);
        faultOf("zyear", 5);
        faultOf(repeated("a", 140), 5);
        is("year", 0);
    }

    private static void numbers() {
        S.of(0, "NUMBERS (digits, 4 at most)");
        readsOf("0");
        readsOf("9999");
        readsOf("0000");
        is("0000", 0);
        is("0009", 9);
        is("9999=9998+1", 1);
        faultOf("10000", 5);
        faultOf("00000", 5);
        faultOf("/", 5);
        faultOf(":", 5);
        is("9", 9);
        is("0", 0);
    }

    private static void signs() {
        S.of(0, "SIGNS ( ) ; + - * < =");
        is("(2)", 2);
        is("2+3", 5);
        is("3-2", 1);
        is("2*3", 6);
        is("2<3", 1);
        is("3=3", 1);
        for (String other : new String[] {"1>2", "1/2", "1%2", "1,2", "1.2", "1&2", "1!2"}) {
            faultOf(other, 6);
        }
        faultOf("1<=2", 7);
        faultOf("1==2", 7);
    }

    private static void blanks() {
        S.of(0, "blanks (32, 10) may stand between");
        reads(" \n digs \n 1 \n ; \n weeds \n 1 \n ; \n stays \n 1 \n ; \n ");
        fault("di gs 1;weeds 1;stays 1;", 0);
        faultOf("1 1", 7);
        faultOf("ye ar", 5);
        for (int b : new int[] {0, 9, 11, 12, 13, 31, 127, 160, 255}) {
            faultOf("1" + (char) b, 6);
        }
        fault(repeated(" ", 160), 160);
        fault("\n", 1);
    }

    private static void textForm() {
        S.of(0, "TEXT: digs E ; weeds E ; stays E ;");
        fault("", 0);
        fault("1", 0);
        fault("weeds 1;digs 1;stays 1;", 0);
        fault("digs 1;digs 1;weeds 1;stays 1;", 7);
        fault("digs 1;stays 1;weeds 1;", 7);
        fault("digs 1;weeds 1;weeds 1;", 15);
        fault("digs ;weeds 1;stays 1;", 5);
        fault("digs 1;weeds ;stays 1;", 13);
        fault("digs 1;weeds 1;stays ;", 21);
        fault("digs 1 weeds 1;stays 1;", 7);
        fault("digs 1;weeds 1 stays 1;", 15);
        fault("digs 1;weeds 1;stays 1;;", 23);
        fault("digs 1;weeds 1;stays 1;digs", 23);
    }

    private static void orForm() {
        S.of(0, "E: AND { or AND }. AND: NOT { and NOT }.");
        is("1 or 0 and 0", 1);
        is("0 and 0 or 1", 1);
        is("0 or 0 or 0 or 7", 1);
        is("7 and 7 and 7 and 0", 0);
        is("0<1 and 1<2 or 0", 1);
        is("not 0 and not 0", 1);
        faultOf("or 1", 5);
        faultOf("and 1", 5);
        faultOf("1 or", 9);
        faultOf("1 and", 10);
        faultOf("1 or or 1", 10);
        faultOf("1 and or 1", 11);
        faultOf("1 not 1", 7);
    }

    private static void notForm() {
        S.of(0, "NOT: not NOT, or SUM, perhaps < or = and a SUM.");
        is("not 0<1", 0);
        is("not not 7", 1);
        faultOf("1<2<3", 8);
        faultOf("1=2=3", 8);
        faultOf("1<2=3", 8);
        faultOf("1=2<3", 8);
        faultOf("<1", 5);
        faultOf("1<", 7);
        faultOf("1=;", 7);
        faultOf("1<not 1", 7);
        faultOf("not", 8);
        is("(1<2)<3", 1);
    }

    private static void sumForm() {
        S.of(0, "SUM: TERM { + or - TERM }. TERM: ONE { * ONE }. ONE: a NUMBER, a NAME, - ONE, ( E ).");
        is("9-3-2", 4);
        is("9-3+2", 8);
        is("2+3*4", 14);
        is("2*3+4", 10);
        is("-2*-3", 6);
        is("9--3", 12);
        faultOf("+1", 5);
        faultOf("*1", 5);
        faultOf("1+", 7);
        faultOf("1-", 7);
        faultOf("1*", 7);
        faultOf("1++1", 7);
        faultOf("1**1", 7);
        faultOf("-", 6);
        faultOf("()", 6);
        faultOf("(1", 7);
        faultOf("1)", 6);
        faultOf("((1)", 9);
        faultOf("1 2", 7);
        faultOf("(1)(2)", 8);
        faultOf("2year", 6);
        faultOf("-not 1", 6);
        faultOf("1+not 1", 7);
    }

    private static void keys() {
        S.of(0, "NAMES are number year level held strip warned; digs, weeds, stays, or, and, not are KEYS.");
        for (String name : new String[] {"number", "year", "level", "held", "strip", "warned"}) {
            readsOf(name);
            fault(name + " 1;weeds 1;stays 1;", 0);
            faultOf(name + "s", 5);
            faultOf(name.substring(1), 5);
            faultOf(name.substring(0, name.length() - 1), 5);
            for (String other : others(name)) {
                faultOf(other, 5);
            }
        }
        for (String key : new String[] {"digs", "weeds", "stays", "or", "and"}) {
            faultOf(key, 5);
            faultOf("(" + key + ")", 6);
        }
        for (String other : others("digs")) {
            fault(other + " 1;weeds 1;stays 1;", 0);
        }
        for (String other : others("weeds")) {
            fault("digs 1;" + other + " 1;stays 1;", 7);
        }
        for (String other : others("stays")) {
            fault("digs 1;weeds 1;" + other + " 1;", 15);
        }
        for (String key : new String[] {"or", "and"}) {
            for (String other : others(key)) {
                faultOf("1 " + other + " 1", 7);
            }
        }
        for (String other : others("not")) {
            faultOf(other + " 1", 5);
        }
    }

    /** Words as long as this one that are otherwise in one letter. */
    private static String[] others(String word) {
        String[] all = new String[word.length()];
        for (int i = 0; i < all.length; i++) {
            all[i] = word.substring(0, i) + "q" + word.substring(i + 1);
        }
        return all;
    }

    private static void wrapping() {
        S.of(0, "An E is an int (32 bits, wrapping)");
        is(LEAST + "<0", 1);
        is("0<" + LEAST + "-1", 1);
        is(LEAST + "-1+1<0", 1);
        is("-(" + LEAST + ")=" + LEAST, 1);
        is("-(" + LEAST + "-1)-2=" + LEAST + "-1", 1);
        is(LEAST + "*2=0", 1);
        is(LEAST + "*2+9", 9);
        is(LEAST + "+" + LEAST + "+8", 8);
        is("9999*9999*9999*9999*9999*9999=(9999*9999*9999)*(9999*9999*9999)", 1);
        is("9999*9999*43=417*9999+3164", 1);
        is(LEAST + "-1", 99);
        is(LEAST, 0);
    }

    private static void truth() {
        S.of(0, "of or, and, not, <, = 1 or 0 (what is not 0 is true)");
        is("7 or 0", 1);
        is("-7 or 0", 1);
        is("0 or 0", 0);
        is("7 and -7", 1);
        is("7 and 0", 0);
        is("0 and 0", 0);
        is("not -1", 0);
        is("not 9", 0);
        is("not 0", 1);
        is(LEAST + " or 0", 1);
        is(LEAST + "*2 or 0", 0);
        is("not " + LEAST + "*2", 1);
        is("2<2", 0);
        is("1<2", 1);
        is("-1<0", 1);
        is("2=2", 1);
        is("2=1", 0);
        is(LEAST + "<" + LEAST + "-1", 1);
        is("0 and 7", 0);
        is("-1 and 7", 1);
        is("(2 or 0)+(3 and 4)+(not 0)+(1<2)+(5=5)", 5);
        is("(0 or 0)+9", 9);
        is("(0 and 7)+9", 9);
        is("(not 7)+9", 9);
        is("(2<1)+9", 9);
        is("(1=2)+9", 9);
    }

    private static void faultPlace() {
        S.of(0, "FAULT: the place of the first byte of the first TOKEN that can't stand there");
        fault("x", 0);
        fault(" x", 1);
        fault("digs 1   weeds 1;stays 1;", 9);
        fault("digs 1;weeds 1;stays 1;\n\n9999", 25);
        fault("digs 1 2 # 99999 x", 7);
        fault("digs 1 # 2", 7);
        fault("digs 99999 #", 5);
    }

    private static void faultAtTheEnd() {
        S.of(0, "(the text's size, if it ends too early)");
        String text = "digs (1) ;weeds 1<2;stays - 1 ;";
        for (int size = 0; size < text.length(); size++) {
            // where a word is cut it is none, and begins the fault
            int cut = size;
            while (cut > 0 && Character.isLetter(text.charAt(cut - 1)) && Character.isLetter(text.charAt(size))) {
                cut--;
            }
            fault(text.substring(0, size), cut);
        }
        reads(text);
        fault("digs 1 ", 7);
        fault("digs 1;weeds 1;stays 1 \n ", 25);
    }

    private static void faultOfBytes() {
        S.of(0, "also of a byte that begins none");
        for (int b = 0; b < 256; b++) {
            boolean mayBegin = b == ' ' || b == '\n' || b == '(' || b == '-' || b >= '0' && b <= '9';
            fault("digs " + (char) b, mayBegin ? 6 : 5);
            boolean mayFollow = b == ' ' || b == '\n' || ";+-*<=".indexOf(b) >= 0 || b >= '0' && b <= '9';
            fault("digs 1" + (char) b, mayFollow ? 7 : 6);
            String whole = "digs 1;weeds 1;stays 1;";
            if (b == ' ' || b == '\n') {
                reads(whole + (char) b);
            } else {
                fault(whole + (char) b, 23);
            }
        }
    }

    private static void faultOfWords() {
        S.of(0, "a WORD that is neither KEY nor NAME");
        for (String word : new String[] {"x", "numbers", "yea", "ears", "elevel", "he", "strips", "warn", "nor", "an",
            "nand", "nots", "ors", "dig", "weed", "stay"}) {
            faultOf(word, 5);
            faultOf("1+" + word, 7);
            faultOf("1 " + word + " 2", 7);
        }
    }

    private static void faultOfNumbers() {
        S.of(0, "a NUMBER that is too long");
        faultOf("12345", 5);
        faultOf("1+12345", 7);
        faultOf("1 12345", 7);
        faultOf("2147483648", 5);
        faultOf("4294967297", 5);
        faultOf(repeated("1", 140), 5);
        readsOf("1234");
    }

    private static void faultOfOpen() {
        S.of(0, "a ( , a not, a - ahead of a ONE while 5 of these are open");
        String[] open = {"(", "not ", "-"};
        for (String first : open) {
            int size = first.length();
            String close = first.equals("(") ? ")" : "";
            for (int many = 1; many <= 5; many++) {
                readsOf(repeated(first, many) + "1" + repeated(close, many));
            }
            faultOf(repeated(first, 6) + "1" + repeated(close, 6), 5 + 5 * size);
            faultOf(repeated(first, 7) + "1" + repeated(close, 7), 5 + 5 * size);
            for (String sixth : open) {
                faultOf(repeated(first, 5) + sixth + "1", 5 + 5 * size);
            }
        }
        readsOf("not(-(-1))");
        faultOf("not(-(-(1)))", 12);
        faultOf("not(-(--1))", 12);
        faultOf("not(-((not 1)))", 12);
    }

    private static void openTill() {
        S.of(0, "(a ( till its ) , not and - till what they belong to ends)");
        readsOf("(((((1)))))+(((((1)))))");
        readsOf("((((1)+(1))))");
        readsOf("-----1+-----1*-----1");
        readsOf("(----1-1-1)");
        readsOf("((((-1+1))))");
        readsOf("((((-1)+(1))))");
        readsOf("not not not not not 1 and not not not not not 1");
        readsOf("not not not not -1<-1");
        readsOf("-(-(-1))-(-(-1))");
        faultOf("-(-((1)+(-1)))", 14);
        readsOf("-(-((1)+-1))");
        faultOf("not not not not not 1<-1", 27);
        faultOf("not not not not not 1+-1", 27);
        faultOf("not not not not not 1*-1", 27);
        faultOf("not not not not not 1+(1)", 27);
        readsOf("(((((1-1-1)))))");
        faultOf("(((((1--1)))))", 12);
        reads("digs -----1;weeds -----1;stays (((((1)))));");
    }

    private static void sixTexts() {
        S.of(0, "There are 6 TEXTS at most, TEXT 0 with them.");
        FourYearsForAStrip x = Gardens.untouched();
        S.due("at first", x.count(5), 1);
        for (int text = 1; text <= 5; text++) {
            S.due("text " + text, Check.read(x, "digs 1;weeds 1;stays 1;"), text);
        }
        S.due("six", x.count(5), 6);
        S.due("no seventh", Check.read(x, "digs 1;weeds 1;stays 1;"), -4);
        S.due("six still", x.count(5), 6);
        eachHasItsOwnWords();
        longOnesHaveRoom();
    }

    private static void eachHasItsOwnWords() {
        FourYearsForAStrip x = Check.with(0, 0);
        x.give(0, 0);
        for (int text = 1; text <= 5; text++) {
            Check.read(x, "digs 1" + text + ";weeds " + text + ";stays 3" + text + ";");
        }
        for (int text = 5; text >= 1; text--) {
            x.force(text);
            S.due("digs of " + text, x.told(0, 12), 10 + text);
            S.due("weeds of " + text, x.run(1, 11), 50 - text);
            x.set(6, 0, 30 + text);
            S.due("stays of " + text, x.told(0, 13), 0);
            x.set(6, 0, 29 + text);
            S.due("stays of " + text + ", below", x.told(0, 13), 1);
        }
        x.force(0);
        S.due("digs of 0", x.told(0, 12), 9);
    }

    /** Three texts of 160 bytes, each with as many signs as it can have, are all that 512 calls can feed. */
    private static void longOnesHaveRoom() {
        FourYearsForAStrip x = Check.with(0, 0);
        x.give(0, 0);
        for (int text = 1; text <= 3; text++) {
            String most = "digs 7" + text + repeated("-1", 67) + ";weeds 1;stays " + text + ";  ";
            S.due("bytes", most.length(), 160);
            S.due("text " + text, Check.read(x, most), text);
        }
        for (int text = 1; text <= 3; text++) {
            x.force(text);
            S.due("digs of " + text, x.told(0, 12), 3 + text);
            x.set(6, 0, text);
            S.due("stays of " + text, x.told(0, 13), 0);
        }
    }

    private static void namesOfOne() {
        S.of(0, "Of one of PEOPLE who has a STRIP: number: NUMBER; year: YEAR; level: how well it is TENDED; held: HELD;"
            + " strip: its number; warned: WARNED.");
        String[] names = {"number", "year", "level", "held", "strip", "warned"};
        int[] most = {9, 99, 99, 99, 5, 9};
        for (int i = 0; i < names.length; i++) {
            FourYearsForAStrip x = Check.ruled("digs " + names[i] + ";weeds 1;stays 1;", 0, 0);
            x.give(0, 5);
            x.set(5, 0, 9);
            x.set(0, 0, 999);
            x.set(3, 5, 99);
            x.set(6, 0, 999);
            x.set(7, 0, 9);
            S.due(names[i], x.told(0, 12), most[i]);
        }
        for (int i = 0; i < names.length; i++) {
            FourYearsForAStrip x = Check.ruled("digs " + names[i] + "+1;weeds 1;stays 1;", 0, 0);
            x.give(0, 0);
            x.set(3, 0, 0);
            S.due(names[i] + " 0", x.told(0, 12), 1);
        }
    }

    private static void weedsOfNobody() {
        S.of(0, "weeds (of any STRIP; if nobody has it, number, held, warned 0): how much grows over.");
        FourYearsForAStrip x = Check.ruled("digs 0;weeds 1+number+held+warned;stays 99;", 0, 9, 0, 9);
        x.give(0, 0);
        x.set(6, 0, 5);
        x.set(7, 0, 2);
        x.give(1, 1);
        x.set(6, 1, 5);
        x.strikeOff(1);
        S.due("one has it", x.run(1, 10), 50 - 17);
        for (int strip = 1; strip < 6; strip++) {
            S.due("nobody has " + strip, x.run(1, 10 + strip), 49);
        }
        FourYearsForAStrip y = Check.ruled("digs 0;weeds strip+level-50+year;stays 99;");
        y.set(0, 0, 3);
        for (int strip = 0; strip < 6; strip++) {
            S.due("of strip " + strip, y.run(1, 10 + strip), 47 - strip);
        }
    }

    private static void bounds() {
        S.of(0, "digs, weeds (0 .. 99, else the bound), stays (0 .. 99, else the bound).");
        String[] e = {"0", "1", "98", "99", "100", "9999", "-1", "-9999", LEAST, LEAST + "-1"};
        int[] due = {0, 1, 98, 99, 99, 99, 0, 0, 0, 99};
        for (int i = 0; i < e.length; i++) {
            is(e[i], due[i]);
            FourYearsForAStrip x = Check.ruled("digs 0;weeds " + e[i] + ";stays 1;");
            x.set(3, 0, 99);
            S.due("weeds " + e[i], x.run(1, 10), 99 - due[i]);
            FourYearsForAStrip y = Check.ruled("digs 0;weeds 0;stays " + e[i] + ";", 0, 0);
            y.give(0, 0);
            y.set(6, 0, due[i]);
            S.due("stays " + e[i], y.told(0, 13), 0);
            if (due[i] > 0) {
                y.set(6, 0, due[i] - 1);
                S.due("stays " + e[i] + ", below", y.told(0, 13), 1);
            }
        }
        FourYearsForAStrip keen = Check.ruled("digs 999;weeds 0;stays 999;", 1, 0);
        keen.give(0, 0);
        S.due("a KEEN's is twice the bound", keen.told(0, 12), 198);
        FourYearsForAStrip wet = Check.ruled("digs 0;weeds 50;stays 0;");
        wet.set(3, 0, 99);
        wet.set(4, 0, 1);
        S.due("wet: twice behind the bound", wet.run(1, 10), 0);
        FourYearsForAStrip below = Check.ruled("digs 0;weeds -50;stays 0;");
        below.set(4, 0, 1);
        S.due("wet: twice the least", below.run(1, 10), 50);
    }

    private static void textZero() {
        S.of(0, "TEXT 0, at first THE RULE, is: digs 9 ; weeds 12 ; stays 20 ;");
        FourYearsForAStrip x = Check.with(0, 0);
        x.give(0, 0);
        S.due("the rule", x.count(7), 0);
        S.due("digs", x.told(0, 12), 9);
        S.due("weeds", x.run(1, 11), 38);
        x.set(6, 0, 19);
        S.due("stays", x.told(0, 13), 1);
        x.set(6, 0, 20);
        S.due("doesn't", x.told(0, 13), 0);
    }

    // ---- calls

    private static FourYearsForAStrip fullTape() {
        return Gardens.fed(Gardens.untouched(), repeated("d", 160));
    }

    private static void feed() {
        S.of(8, "A byte (0 .. 255) comes behind THE TAPE: how many it has. BAD; FULL.");
        S.within("feed(letter)", Gardens::some, 0, 255, (x, v) -> x.feed(v), -2);
        S.due("the first", Gardens.untouched().feed(0), 1);
        S.due("behind others", Gardens.some().feed(255), 8);
        FourYearsForAStrip x = Gardens.fed(Gardens.untouched(), repeated("d", 159));
        S.due("the last", x.feed('d'), 160);
        S.refused("one more", TextBoundsTest::fullTape, g -> g.feed('d'), -4);
        S.refused("BAD ahead of FULL", TextBoundsTest::fullTape, g -> g.feed(256), -2);
        S.refused("BAD ahead of FULL", TextBoundsTest::fullTape, g -> g.feed(-1), -2);
    }

    private static void text() {
        S.of(9, "THE TAPE, which is empty then, is a TEXT: its number; -100 less the place of its FAULT.");
        FourYearsForAStrip x = Gardens.untouched();
        S.due("nothing", x.text(), -100);
        S.due("a text", Check.read(x, "digs 1;weeds 1;stays 1;"), 1);
        S.due("is empty then", x.count(6), 0);
        S.due("a fault at 0", Check.read(x, "x"), -100);
        S.due("is empty then, too", x.count(6), 0);
        S.due("the next begins anew", x.feed('d'), 1);
        S.due("a fault at 1", x.text(), -100);
        S.due("a fault behind", Check.read(x, "digs"), -104);
        S.due("no text came of faults", x.count(5), 2);
        S.due("the farthest fault", Check.read(x, repeated(" ", 160)), -260);
        S.due("a text behind faults", Check.read(x, "digs 3;weeds 1;stays 1;"), 2);
        S.due("the rule stays", x.count(7), 0);
        x.tenant(0, 0);
        x.give(0, 0);
        x.force(2);
        S.due("it is its own words", x.told(0, 12), 3);
        faultsLeaveNothing();
    }

    /** Three texts that end where as much as can be waits for its other side, and a whole one behind them. */
    private static void faultsLeaveNothing() {
        FourYearsForAStrip x = Check.with(0, 0);
        x.give(0, 0);
        String waiting = "1 or 1 and 1<1+1*";
        for (int i = 0; i < 3; i++) {
            S.due("a fault at the end", Check.read(x, "digs " + repeated(waiting + "(", 5) + waiting), -212);
        }
        S.due("a text", Check.read(x, "digs 2+3*4;weeds 1;stays 1;"), 1);
        x.force(1);
        S.due("is its own words alone", x.told(0, 12), 14);
        FourYearsForAStrip many = Check.with(0, 0);
        many.give(0, 0);
        for (int i = 0; i < 75; i++) {
            S.due("a fault behind a number", Check.read(many, "digs1"), -105);
        }
        S.due("a text behind 75 faults", Check.read(many, "digs 2+3*4;weeds 1;stays 1;"), 1);
        many.force(1);
        S.due("is its own words alone", many.told(0, 12), 14);
    }

    private static FourYearsForAStrip fullOfTexts(String tape) {
        FourYearsForAStrip x = Gardens.untouched();
        for (int text = 1; text <= 5; text++) {
            Check.read(x, "digs " + text + ";weeds 1;stays 1;");
        }
        return Gardens.fed(x, tape);
    }

    private static void textIsFull() {
        S.of(9, "FULL: no TEXT more has room (THE TAPE stays).");
        for (String tape : new String[] {"", "x", "digs 1;weeds 1;stays 1;"}) {
            Supplier<FourYearsForAStrip> garden = () -> fullOfTexts(tape);
            S.refused("text() of " + tape, garden, FourYearsForAStrip::text, -4);
            FourYearsForAStrip x = garden.get();
            x.text();
            S.due("the tape stays", x.count(6), tape.length());
            S.due("and grows on", x.feed('x'), tape.length() + 1);
        }
    }

    private static void force() {
        S.of(10, "A TEXT is THE RULE: which was. BAD.");
        S.within("force(text), of one", Gardens::untouched, 0, 0, (x, v) -> x.force(v), -2);
        S.within("force(text), of two", Gardens::some, 0, 1, (x, v) -> x.force(v), -2);
        S.within("force(text), of six", () -> fullOfTexts(""), 0, 5, (x, v) -> x.force(v), -2);
        FourYearsForAStrip x = fullOfTexts("");
        S.due("to the last", x.force(5), 0);
        S.due("to the same", x.force(5), 5);
        S.due("to the first", x.force(0), 5);
        FourYearsForAStrip faulty = Gardens.untouched();
        Check.read(faulty, "digs 1;weeds 1;stays 1");
        S.due("a faulty one is none", faulty.force(1), -2);
    }
}
