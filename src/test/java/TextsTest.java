/** Promises 8 to 10: feed, text, force; what texts say, and their faults. */
public final class TextsTest {
    private static final Check CHECK = new Check();

    public static void main(String[] args) {
        feed();
        text();
        textsHaveRoom();
        force();
        names();
        values();
        bounds();
        faults();
        faultsOfDepth();
        faultsOfTokens();
        longTexts();
        CHECK.end();
    }

    private static void feed() {
        FourYearsForAStrip x = new FourYearsForAStrip();
        CHECK.due("8: -1", x.feed(-1), -2);
        CHECK.due("8: 256", x.feed(256), -2);
        CHECK.due("8: none", x.count(6), 0);
        for (int i = 0; i < 160; i++) {
            CHECK.due("8: byte " + i, x.feed(i % 2 == 0 ? 0 : 255), i + 1);
        }
        CHECK.due("8: one more", x.feed(0), -4);
        CHECK.due("8: one more that is none", x.feed(256), -2);
        CHECK.due("8: bytes", x.count(6), 160);
        CHECK.due("9: no text", x.text(), -100);
        CHECK.due("8: again", x.feed(7), 1);
    }

    private static void text() {
        FourYearsForAStrip x = new FourYearsForAStrip();
        CHECK.due("9: an empty tape", x.text(), -100);
        CHECK.due("9: a text", Check.read(x, "digs 1 ; weeds 2 ; stays 3 ;"), 1);
        CHECK.due("9: the tape is empty", x.count(6), 0);
        CHECK.due("9: a fault", Check.read(x, "digs 1 ; weeds 2 ; stays 3"), -126);
        CHECK.due("9: the tape is empty too", x.count(6), 0);
        CHECK.due("9: texts", x.count(5), 2);
        CHECK.due("9: the next", Check.read(x, "digs 4;weeds 5;stays 6;"), 2);
        CHECK.due("9: the rule is as it was", x.count(7), 0);
    }

    private static void textsHaveRoom() {
        FourYearsForAStrip x = Check.with(0, 0);
        x.give(0, 0);
        for (int i = 1; i <= 5; i++) {
            CHECK.due("9: fault ahead of text " + i, Check.read(x, "digs 1+2*3;weeds 1;stays 1"), -126);
            CHECK.due("9: text " + i, Check.read(x, "digs " + i + "*2;weeds " + i + ";stays 1;"), i);
        }
        x.feed('d');
        CHECK.due("9: no room", x.text(), -4);
        CHECK.due("9: the tape stays", x.count(6), 1);
        CHECK.due("9: texts", x.count(5), 6);
        for (int i = 1; i <= 5; i++) {
            x.force(i);
            CHECK.due("9: each has its own words, " + i, x.told(0, 12), 2 * i);
        }
        x.force(0);
        CHECK.due("9: so has text 0", x.told(0, 12), 9);
    }

    private static void force() {
        FourYearsForAStrip x = new FourYearsForAStrip();
        CHECK.due("10: -1", x.force(-1), -2);
        CHECK.due("10: no such text", x.force(1), -2);
        CHECK.due("10: 0", x.force(0), 0);
        Check.read(x, "digs 1 ; weeds 2 ; stays 3 ;");
        CHECK.due("10: 1", x.force(1), 0);
        CHECK.due("10: the rule", x.count(7), 1);
        CHECK.due("10: 2", x.force(2), -2);
        CHECK.due("10: 6", x.force(6), -2);
        CHECK.due("10: back", x.force(0), 1);
        CHECK.due("10: weeds by it", x.run(1, 10), 38);
        x.force(1);
        CHECK.due("10: weeds by the other", x.run(1, 10), 48);
    }

    /** What an E is, for TENANT number 7 on strip 3, year 41, level 23, held 11, warned 2; 0 .. 99. */
    private static int digs(String e) {
        FourYearsForAStrip x = Check.ruled("digs " + e + "; weeds 0; stays 0;", 0, 7);
        CHECK.due("is read: " + e, x.count(7), 1);
        x.give(0, 3);
        x.set(0, 0, 41);
        x.set(3, 3, 23);
        x.set(6, 0, 11);
        x.set(7, 0, 2);
        return x.told(0, 12);
    }

    private static void is(String e, int due) {
        CHECK.due("E: " + e, digs(e), due);
    }

    private static void names() {
        is("number", 7);
        is("year", 41);
        is("level", 23);
        is("held", 11);
        is("strip", 3);
        is("warned", 2);
        FourYearsForAStrip x = Check.ruled("digs 0; weeds number+held+warned+1+strip; stays 0;");
        for (int strip = 0; strip < 6; strip++) {
            CHECK.due("E: weeds, nobody there", x.run(1, 10 + strip), 49 - strip);
        }
        FourYearsForAStrip y = Check.ruled("digs 0; weeds number+held*2+warned*4; stays 0;", 0, 9);
        y.give(0, 1);
        y.set(6, 0, 3);
        y.set(7, 0, 1);
        CHECK.due("E: weeds, one there", y.run(1, 11), 31);
        FourYearsForAStrip z = Check.ruled("digs 0; weeds level - 10 + year; stays 0;");
        z.set(0, 0, 3);
        CHECK.due("E: weeds by level and year", z.run(1, 10), 7);
    }

    private static void values() {
        is("0050", 50);
        is("2+3*4", 14);
        is("(2+3)*4", 20);
        is("20-3-4", 13);
        is("20-(3-4)", 21);
        is("- 3 + 9", 6);
        is("9 - - 3", 12);
        is("- - 3", 3);
        is("-3*-4", 12);
        is("2 * - 3 + 10", 4);
        is("2<3", 1);
        is("3<3", 0);
        is("3<2", 0);
        is("3=3", 1);
        is("3=4", 0);
        is("1+1<3", 1);
        is("(2<3)+5", 6);
        is("5 or 0", 1);
        is("0 or 0", 0);
        is("0 or 7", 1);
        is("5 and 7", 1);
        is("5 and 0", 0);
        is("not 5", 0);
        is("not 0", 1);
        is("not not 5", 1);
        is("not 0 < 1", 0);
        is("not 1 = 0", 1);
        is("not 0 and 0", 0);
        is("1 or 0 and 0", 1);
        is("(1 or 0) and 0", 0);
        is("0 and 0 or 1", 1);
        is("not (1 and 0) or 0", 1);
        is("(((((9)))))", 9);
        is("1 or 1 or 0", 1);
        is("1 and 1 and 0", 0);
        is("9999*9999*21<0", 0);
        is("9999*9999*22<0", 1);
        // 9999 * 9999 * 43 is 4299140043, which is 4172747 in 32 bits: 417 * 9999 + 3164 (and 4299140043 has more).
        is("9999*9999*43=417*9999+3164", 1);
        is("9999*9999*43-417*9999-3164+5", 5);
    }

    private static void bounds() {
        is("99", 99);
        is("100", 99);
        is("9999", 99);
        is("0-1", 0);
        is("-9999", 0);
        FourYearsForAStrip x = Check.ruled("digs 0; weeds 0-5; stays 200;", 0, 0);
        x.give(0, 0);
        CHECK.due("E: weeds below 0", x.run(1, 10), 50);
        x.set(6, 0, 98);
        CHECK.due("E: stays above 99", x.told(0, 13), 1);
        x.set(6, 0, 99);
        CHECK.due("E: stays 99 then", x.told(0, 13), 0);
        FourYearsForAStrip y = Check.ruled("digs 0; weeds 500; stays 0-9;", 0, 0);
        y.give(0, 0);
        CHECK.due("E: stays below 0", y.told(0, 13), 0);
        CHECK.due("E: weeds above 99", y.run(1, 10), 0);
    }

    private static void fault(String text, int place) {
        FourYearsForAStrip x = new FourYearsForAStrip();
        CHECK.due("FAULT of " + text.replace('\n', '|'), Check.read(x, text), -100 - place);
    }

    private static void reads(String text) {
        FourYearsForAStrip x = new FourYearsForAStrip();
        CHECK.due("TEXT " + text.replace('\n', '|'), Check.read(x, text), 1);
    }

    private static void faults() {
        reads("digs 9 ; weeds 12 ; stays 20 ;");
        reads("digs9;weeds12;stays20;");
        reads("\n digs\n9 \n; weeds 12 ; stays 20 ; \n");
        fault("  ", 2);
        fault("weeds 1;digs 1;stays 1;", 0);
        fault("digs", 4);
        fault("digs  ", 6);
        fault("digs ;weeds 1;stays 1;", 5);
        fault("digs 1 weeds 1;stays 1;", 7);
        fault("digs 1;stays 1;weeds 1;", 7);
        fault("digs 1;weeds 1;", 15);
        fault("digs 1;weeds 1;stays 1;;", 23);
        fault("digs 1;weeds 1;stays 1; 5", 24);
        fault("digs 1;weeds 1;stays 1; #", 24);
        fault("digs 1 2;weeds 1;stays 1;", 7);
        fault("digs 1 year;weeds 1;stays 1;", 7);
        fault("digs 1+;weeds 1;stays 1;", 7);
        fault("digs +1;weeds 1;stays 1;", 5);
        fault("digs 1+*2;weeds 1;stays 1;", 7);
        fault("digs 1<2<3;weeds 1;stays 1;", 8);
        fault("digs 1<2=3;weeds 1;stays 1;", 8);
        fault("digs 1=2<3;weeds 1;stays 1;", 8);
        reads("digs (1<2)<3;weeds 1;stays 1;");
        fault("digs 1+not 2;weeds 1;stays 1;", 7);
        fault("digs 1<not 2;weeds 1;stays 1;", 7);
        fault("digs -not 2;weeds 1;stays 1;", 6);
        reads("digs -(not 2);weeds 1;stays 1;");
        reads("digs 1 or not 2 and not 3;weeds 1;stays 1;");
        fault("digs or 1;weeds 1;stays 1;", 5);
        fault("digs 1 and;weeds 1;stays 1;", 10);
        fault("digs (1;weeds 1;stays 1;", 7);
        fault("digs 1);weeds 1;stays 1;", 6);
        fault("digs ();weeds 1;stays 1;", 6);
        fault("digs digs;weeds 1;stays 1;", 5);
        fault("digs 1;weeds weeds;stays 1;", 13);
    }

    private static void faultsOfDepth() {
        reads("digs (((((1)))));weeds 1;stays 1;");
        fault("digs ((((((1))))));weeds 1;stays 1;", 10);
        reads("digs -----1;weeds 1;stays 1;");
        fault("digs ------1;weeds 1;stays 1;", 10);
        reads("digs not not not not not 1;weeds 1;stays 1;");
        fault("digs not not not not not not 1;weeds 1;stays 1;", 25);
        reads("digs not(-(-1));weeds 1;stays 1;");
        reads("digs not(-(-1))-1;weeds 1;stays 1;");
        fault("digs not(-(-(1)));weeds 1;stays 1;", 12);
        fault("digs not(-(--1));weeds 1;stays 1;", 12);
        reads("digs not(-(-1-(1)));weeds 1;stays 1;");
        reads("digs (((((1)))))+(((((2)))))*-----3;weeds 1;stays 1;");
        reads("digs not not not not not 1 and not not not not not 2;weeds 1;stays 1;");
        reads("digs ((((-1-2-3))));weeds 1;stays 1;");
        reads("digs (((((1-2-3)))));weeds 1;stays 1;");
        fault("digs (((((-1)))));weeds 1;stays 1;", 10);
        fault("digs (((((not 1)))));weeds 1;stays 1;", 10);
        fault("digs (((((1--2)))));weeds 1;stays 1;", 12);
        fault("digs not not not not not (1);weeds 1;stays 1;", 25);
        fault("digs not not not not not 1 < -1;weeds 1;stays 1;", 29);
        fault("digs not not not not not 1 and not not not not not not 2;weeds 1;stays 1;", 51);
        reads("digs 1;weeds (((((1)))));stays (((((1)))));");
    }

    private static void faultsOfTokens() {
        reads("digs 9999;weeds 0000;stays 1;");
        fault("digs 12345;weeds 1;stays 1;", 5);
        fault("digs 00001;weeds 1;stays 1;", 5);
        fault("digs 1+99999999999;weeds 1;stays 1;", 7);
        fault("digs abc;weeds 1;stays 1;", 5);
        fault("digs yearx;weeds 1;stays 1;", 5);
        fault("digs yea;weeds 1;stays 1;", 5);
        fault("digs yearz;weeds 1;stays 1;", 5);
        fault("digs yeara;weeds 1;stays 1;", 5);
        fault("digs ayear;weeds 1;stays 1;", 5);
        fault("digss 1;weeds 1;stays 1;", 0);
        fault("Digs 1;weeds 1;stays 1;", 0);
        fault("digs 1#;weeds 1;stays 1;", 6);
        fault("digs 1\t;weeds 1;stays 1;", 6);
        fault("digs 1" + (char) 233 + ";weeds 1;stays 1;", 6);
        fault("digs 1" + (char) 0 + ";weeds 1;stays 1;", 6);
        fault("digs 1>2;weeds 1;stays 1;", 6);
        fault("digs 1 2 # 12345;weeds 1;stays 1;", 7);
        fault("digs 1year;weeds 1;stays 1;", 6);
        fault("digs year1;weeds 1;stays 1;", 9);
        fault("digs orand;weeds 1;stays 1;", 5);
        fault("digs notyear;weeds 1;stays 1;", 5);
        reads("digs(year);weeds(1);stays(1);");
        reads("digs not year;weeds 1;stays 1;");
        for (int b = 0; b < 256; b++) {
            String text = "digs 1 " + (char) b;
            boolean mayStand = b == ' ' || b == '\n' || ";+-*<=".indexOf(b) >= 0;
            fault(text, mayStand ? 8 : 7);
        }
    }

    private static void longTexts() {
        StringBuilder most = new StringBuilder("digs 1");
        while (most.length() < 160 - "-1;weeds 1;stays 1;".length()) {
            most.append("-1");
        }
        String text = most + ";weeds 1;stays 1;";
        CHECK.holds("long enough", text.length() > 157 && text.length() <= 160);
        reads(text);
        FourYearsForAStrip three = Check.with(0, 0);
        three.give(0, 0);
        for (int i = 1; i <= 3; i++) {
            // the first 1 becomes 80 and more: digs 80 + i less all the others
            String longText = text.replaceFirst("1", "" + (80 + i)).replaceFirst("-1;", ";");
            CHECK.due("a long text " + i, Check.read(three, longText), i);
        }
        three.force(3);
        CHECK.due("a long text tells", three.told(0, 12), 83 - (text.indexOf(';') - 6) / 2 + 1);
        FourYearsForAStrip x = new FourYearsForAStrip();
        String deep = "digs 1 or 1 and 1<1+1*(1 or 1 and 1<1+1*(1 or 1 and 1<1+1*(1 or 1 and 1<1+1*(1 or 1 and 1<1+1*"
            + "(0 or 1 and 1<1+1*5)))));weeds 1;stays 1;";
        CHECK.due("a deep text", Check.read(x, deep), 1);
        CHECK.due("another", Check.read(x, deep), 2);
        x.tenant(0, 0);
        x.give(0, 0);
        x.force(2);
        CHECK.due("a deep text tells", x.told(0, 12), 1);
    }
}
