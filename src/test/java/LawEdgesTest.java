/** Promises 10 to 13: each sentence of the document that names a limit or a refusal. */
public final class LawEdgesTest {
    private static final int NONE = Check.NONE, OUTSIDE = Check.OUTSIDE, NOT = Check.NOT, FULL = Check.FULL;
    private static final int MIN = Integer.MIN_VALUE, MAX = Integer.MAX_VALUE;
    private static final String EIGHT = "from 1;from 2;from 3;from 4;from 5;from 6;from 7;from 8;";
    private static final String[] PLAIN = {"kin", "half", "feud", "false", "lost", "age", "short", "oath"};
    private static final String[] KEYED = {"need", "count", "fine"};

    public static void main(String[] args) {
        lengths();
        fullText();
        lowestBytes();
        atLeastOnePart();
        noRules();
        keys();
        figures();
        largest();
        blanks();
        sideBySide();
        blanksAnywhere();
        fromItsDayOn();
        asAtFirst();
        theEnd();
        cannotStand();
        wordsThatCannot();
        theLeast();
        tooManyFigures();
        aboveThree();
        aboveOne();
        above99();
        days();
        ninthPart();
        emptyThen();
        asItWas();
        chargesAlready();
        faultOfTheLatest();
        lawDays();
        lawKeys();
        lawRules();
        Check.end();
    }

    private static void sound(String text, int parts) {
        SwornCourt x = new SwornCourt();
        Check.due("read of '" + text + "'", Check.read(x, text), parts);
        Check.due("fault of '" + text + "'", x.fault(), NONE);
        Check.due("parts of '" + text + "'", x.count(3), parts);
    }

    private static void lengths() {
        Check.edge("The n lowest bytes (n 1 .. 8) of a long");
        SwornCourt x = new SwornCourt();
        for (int n : new int[] {0, 9, -1, MIN, MAX}) Check.due("feed " + n, x.feed(n, 0), OUTSIDE);
        Check.due("feed 1", x.feed(1, 0), 1);
        Check.due("feed 8", x.feed(8, 0), 9);
    }

    private static void fullText() {
        Check.edge("THE LAW is a text (240 bytes at most)");
        SwornCourt x = new SwornCourt();
        for (int i = 1; i <= 29; i++) x.feed(8, 0x2020202020202020L);
        Check.due("232 and one", x.feed(1, 32), 233);
        Check.due("241", x.feed(8, 0), FULL);
        Check.due("OUTSIDE ahead of FULL", x.feed(9, 0), OUTSIDE);
        Check.due("240", x.feed(7, 0x20202020202020L), 240);
        for (int n = 1; n <= 8; n++) Check.due("beyond by " + n, x.feed(n, 0), FULL);
        Check.due("nothing but blanks in it", x.read(), -11);
        Check.due("to its end", x.fault(), 240);
        Check.due("room again", x.feed(8, 0), 8);
    }

    private static void lowestBytes() {
        Check.edge("the highest of these first, come behind THE TEXT: how many it has");
        SwornCourt x = new SwornCourt();
        // what lies above the n lowest bytes is not taken, though it makes the long negative
        Check.due("from", x.feed(4, 0xff000000_66726f6dL), 4);
        Check.due("7", x.feed(1, 0xfedcba98_76543237L), 5);
        Check.due(";from 8;", x.feed(8, 0x3b66726f6d20383bL), 13);
        Check.due("two parts", x.read(), 2);
        x.feed(8, 0x66726f6d20313bffL);
        Check.due("a byte of 255", x.read(), -11);
        Check.due("it is the eighth", x.fault(), 7);
        x.feed(8, -1L);
        Check.due("all of 255", x.read(), -11);
        Check.due("at the first", x.fault(), 0);
        x.feed(8, Long.MIN_VALUE);
        Check.due("128 and noughts", x.read(), -11);
        Check.due("at the first, too", x.fault(), 0);
        // the letter 'f' with bit 7, and those beside the letters and figures
        for (int sign : new int[] {0xe6, '`', '{', '/', ':', '@', 'F', 0, 9, 10, 13, 31, 33, 160}) {
            Check.fault("from 1" + (char) sign + ";", 1, 6);
        }
    }

    private static void atLeastOnePart() {
        Check.edge("part {part}");
        Check.fault("", 1, 0);
        Check.fault(" ", 1, 1);
        Check.fault(";", 1, 0);
        sound("from 0;", 1);
        sound(EIGHT, 8);
    }

    private static void noRules() {
        Check.edge("part = 'from' NUMBER {rule} ';'");
        sound("from 1;", 1);
        sound("from 1 kin 1;", 1);
        sound("from 1 kin 1 kin 1 kin 1;", 1);
        Check.fault("from ;", 1, 5);
        Check.fault("1;", 1, 0);
        Check.fault("from 1 kin 1 1;", 1, 13);
        Check.fault("from 1 kin 1,", 1, 12);
        Check.fault("from 1;;", 1, 7);
        Check.fault("from 1; kin 1;", 1, 8);
        Check.fault("from 1 kin 1 from 2;", 1, 13);
        for (String rule : PLAIN) {
            sound("from 1 " + rule + " 1;", 1);
            Check.fault("from 1 " + rule + ";", 1, 7 + rule.length());
            Check.fault("from 1 " + rule + " 1 1;", 1, 10 + rule.length());
        }
        for (String rule : KEYED) {
            sound("from 1 " + rule + " 1 1;", 1);
            Check.fault("from 1 " + rule + ";", 1, 7 + rule.length());
            Check.fault("from 1 " + rule + " 1;", 1, 9 + rule.length());
            Check.fault("from 1 " + rule + " 1 1 1;", 1, 12 + rule.length());
        }
    }

    private static void keys() {
        Check.edge("K, R: a NUMBER 0 .. 3.");
        for (String rule : KEYED) {
            sound("from 1 " + rule + " 0 1 " + rule + " 3 1;", 1);
            sound("from 1 " + rule + " 0003 1;", 1);
            Check.fault("from 1 " + rule + " 4 1;", 2, 8 + rule.length());
            Check.fault("from 1 " + rule + " -1 1;", 1, 8 + rule.length());
        }
    }

    private static void figures() {
        Check.edge("A NUMBER has one to four figures.");
        sound("from 0;", 1);
        sound("from 9999;", 1);
        sound("from 0000;", 1);
        sound("from 1 need 0000 0000;", 1);
        Check.fault("from 00000;", 2, 5);
        Check.fault("from 10000;", 2, 5);
        Check.fault("from 1 need 00000 1;", 2, 12);
        Check.fault("from 1 need 0 00001;", 2, 14);
        // 2^32 and 2^64, that a sum with a wrap-around would take for 0
        Check.fault("from 4294967296;", 2, 5);
        Check.fault("from 1 kin 18446744073709551616;", 2, 11);
        SwornCourt x = Check.under("from 0007 need 0001 0042;");
        Check.due("noughts ahead", x.law(0, 1, 7), 42);
        Check.due("the day ahead", x.law(0, 1, 6), 12);
    }

    private static void largest() {
        Check.edge("'kin' NUMBER | 'half' NUMBER | 'feud' NUMBER | 'false' NUMBER");
        SwornCourt x = Check.under("from 9999 need 3 99 count 3 99 kin 9999 half 1 feud 1 false 9999 lost 9999 age 9999"
            + " fine 3 9999 short 9999 oath 9999;");
        int[] most = {99, 99, 9999, 1, 1, 9999, 9999, 9999, 9999, 9999, 9999};
        for (int rule = 0; rule <= 10; rule++) {
            boolean keyed = rule == 0 || rule == 1 || rule == 8;
            Check.due("most of " + rule, x.law(rule, keyed ? 3 : 0, 9999), most[rule]);
        }
        x = Check.under("from 0 need 3 0 count 3 0 kin 0 half 0 feud 0 false 0 lost 0 age 0 fine 3 0 short 0 oath 0;");
        for (int rule = 0; rule <= 10; rule++) {
            boolean keyed = rule == 0 || rule == 1 || rule == 8;
            Check.due("least of " + rule, x.law(rule, keyed ? 3 : 0, 0), 0);
        }
    }

    private static void blanks() {
        Check.edge("are parted by blanks (32; one or more)");
        sound("from 1 need 0 5 kin 1;", 1);
        sound("from   1   need  0    5   kin     1;", 1);
        // two words or two NUMBERS without one are another word, another NUMBER
        Check.fault("from 1 kin 1 kinkin 1;", 1, 13);
        Check.fault("from 1 need 05;", 2, 12);
        Check.fault("from 1 need 03;", 1, 14);
        for (char sign : new char[] {9, 10, 13, 160, 0}) Check.fault("from" + sign + "1;", 1, 4);
    }

    private static void sideBySide() {
        Check.edge("or stand side by side, if one is a word, the other one a NUMBER");
        sound("from1;", 1);
        sound("from1kin2half1need0 5count1 2;from2;", 2);
        Check.fault("from1kinhalf1;", 1, 5);
        Check.fault("from1kin2x;", 1, 9);
        Check.fault("from12345kin2;", 2, 4);
        SwornCourt x = Check.under("from12need3 45kin6age78;");
        Check.due("need", x.law(0, 3, 12), 45);
        Check.due("kin", x.law(2, 0, 12), 6);
        Check.due("age", x.law(7, 0, 12), 78);
    }

    private static void blanksAnywhere() {
        Check.edge("blanks may stand anywhere else");
        sound(" from 1;", 1);
        sound("from 1 ;", 1);
        sound("from 1; ", 1);
        sound("   from 1   ;   from 2   kin 3   ;   ", 2);
        // but not within a word, nor within a NUMBER
        Check.fault("fr om 1;", 1, 0);
        Check.fault("from 1 ki n 1;", 1, 7);
        Check.fault("from 1 2;", 1, 7);
        Check.fault("from 1 kin 1 2;", 1, 13);
    }

    private static void fromItsDayOn() {
        Check.edge("A rule holds from the day of its part on, till a later part says it anew");
        SwornCourt x = Check.under("from 5 kin 7;from 6;from 8 kin 9;from 9999 kin 1;");
        int[] wanted = {2, 2, 2, 2, 2, 7, 7, 7, 9, 9};
        for (int day = 0; day < 10; day++) Check.due("kin on " + day, x.law(2, 0, day), wanted[day]);
        Check.due("kin on 9998", x.law(2, 0, 9998), 9);
        Check.due("kin on 9999", x.law(2, 0, 9999), 1);
        x = Check.under("from 0 kin 7;");
        Check.due("from day 0 on", x.law(2, 0, 0), 7);
    }

    private static void asAtFirst() {
        Check.edge("at first need 12 each, count 1 each, kin 2, half 0, feud 1, false 0, lost 0, age 0, fine 10 each, "
            + "short 0, oath 0");
        int[] wanted = {12, 1, 2, 0, 1, 0, 0, 0, 10, 0, 0};
        SwornCourt x = Check.under("from 1 need 0 1 count 0 2 fine 0 3;");
        for (int rule = 0; rule <= 10; rule++) {
            for (int k = 0; k < (rule == 0 || rule == 1 || rule == 8 ? 4 : 1); k++) {
                Check.due("rule " + rule + " of " + k, x.law(rule, k, 0), wanted[rule]);
                if (k > 0) Check.due("not said for " + k + " of " + rule, x.law(rule, k, 1), wanted[rule]);
            }
        }
    }

    private static void theEnd() {
        Check.edge("at the first byte that has one (the end at the text's length)");
        String whole = "from 1 need 2 3 kin 4";
        for (int n = 0; n <= whole.length(); n++) {
            String text = whole.substring(0, n);
            boolean inWord = n > 0 && n < 4 || n > 7 && n < 11 || n > 16 && n < 19;
            int at = !inWord ? n : n < 4 ? 0 : n < 11 ? 7 : 16;
            Check.fault(text, 1, at);
        }
        sound(whole + ";", 1);
        Check.fault(whole + "   ", 1, 24);
        Check.fault(whole + ";fro", 1, 22);
        Check.fault(whole + ";from", 1, 26);
        Check.fault(whole + ";from ", 1, 27);
    }

    private static void cannotStand() {
        Check.edge("1 it cannot stand there");
        Check.fault("from 1 7kin 2;", 1, 7);
        Check.fault("from 1 ;kin 2;", 1, 8);
        Check.fault("from 1 kin ;", 1, 11);
        Check.fault("from 1 kin 3! bad", 1, 12);
        Check.fault("from 1 need 1; kin 2;", 1, 13);
        Check.fault("from 1;5;", 1, 7);
        Check.fault("from need 1;", 1, 5);
    }

    private static void wordsThatCannot() {
        Check.edge("(a word that cannot: at its first letter)");
        Check.fault("fromage 1;", 1, 0);
        Check.fault("fro", 1, 0);
        Check.fault("from 1 kins 2;", 1, 7);
        Check.fault("from 1 ki", 1, 7);
        Check.fault("from 1 kin lost 1;", 1, 11);
        Check.fault("from 1 from 2;", 1, 7);
        Check.fault("from 1; lost 3;", 1, 8);
        Check.fault("from 1 need 1 need 2;", 1, 14);
        for (String word : new String[] {"grom", "fron", "froma", "fromz", "afrom", "zfrom"}) {
            Check.fault(word + " 1;", 1, 0);
            Check.fault("from 1; " + word + " 2;", 1, 8);
        }
        for (String rule : PLAIN) {
            Check.fault("from 1 " + rule + "a 1;", 1, 7);
            Check.fault("from 1 " + rule + "z 1;", 1, 7);
            Check.fault("from 1 z" + rule.substring(1) + " 1;", 1, 7);
            Check.fault("from 1 " + rule + "s 1;", 1, 7);
            Check.fault("from 1 x" + rule + " 1;", 1, 7);
            Check.fault("from 1 " + rule.substring(1) + " 1;", 1, 7);
        }
    }

    private static void theLeast() {
        Check.edge("of these the least");
        // five figures where no NUMBER can stand
        Check.fault("from 1 12345;", 1, 7);
        Check.fault("12345;", 1, 0);
        // five figures, and a day that is not above the one ahead
        Check.fault("from 5;from 00001;", 2, 12);
        Check.fault("from 9999;from 10000;", 2, 15);
        // a word that cannot stand there where a ninth part would
        Check.fault(EIGHT + "kin 1;", 1, 56);
        Check.fault(EIGHT + "fromm 9;", 1, 56);
        // the ninth part is ahead of its own day
        Check.fault(EIGHT + "from 1;", 4, 56);
        Check.fault(EIGHT + "from 12345;", 4, 56);
        // the first of two, whichever it is
        Check.fault("from 1 half 2;from 1;", 2, 12);
        Check.fault("from 1;from 1 half 2;", 3, 12);
        Check.fault("from 1;from 1 x", 3, 12);
        Check.fault("from 1 x half 2;", 1, 7);
    }

    private static void tooManyFigures() {
        Check.edge("2 a NUMBER of five figures or more");
        for (String rule : PLAIN) {
            Check.fault("from 1 " + rule + " 00001;", 2, 8 + rule.length());
            Check.fault("from 1 " + rule + " 123456;", 2, 8 + rule.length());
        }
        for (String rule : KEYED) {
            Check.fault("from 1 " + rule + " 00001 1;", 2, 8 + rule.length());
            Check.fault("from 1 " + rule + " 1 00001;", 2, 10 + rule.length());
        }
        Check.fault("from 1 kin " + "1".repeat(229), 2, 11);
    }

    private static void aboveThree() {
        Check.edge("or K, R above 3");
        for (String rule : KEYED) {
            for (String key : new String[] {"4", "9", "10", "0004", "9999"}) {
                Check.fault("from 1 " + rule + " " + key + " 1;", 2, 8 + rule.length());
            }
            Check.fault("from 1 " + rule + "4", 2, 7 + rule.length());
        }
    }

    private static void aboveOne() {
        Check.edge("or half, feud above 1");
        for (String rule : new String[] {"half", "feud"}) {
            sound("from 1 " + rule + " 0;", 1);
            sound("from 1 " + rule + " 0001;", 1);
            for (String value : new String[] {"2", "10", "0002", "9999"}) {
                Check.fault("from 1 " + rule + " " + value + ";", 2, 12);
            }
        }
    }

    private static void above99() {
        Check.edge("or need, count above 99 (at its first figure)");
        for (String rule : new String[] {"need", "count"}) {
            sound("from 1 " + rule + " 0 99;", 1);
            sound("from 1 " + rule + " 0 0099;", 1);
            for (String value : new String[] {"100", "0100", "9999"}) {
                Check.fault("from 1 " + rule + " 0 " + value + ";", 2, 10 + rule.length());
            }
        }
        sound("from 1 fine 0 100;", 1);
        sound("from 1 fine 0 9999;", 1);
    }

    private static void days() {
        Check.edge("3 a part whose day is not above that of the part ahead (at the first figure of its day)");
        sound("from 0;from 1;", 2);
        sound("from 9998;from 9999;", 2);
        Check.fault("from 0;from 0;", 3, 12);
        Check.fault("from 0;from0000;", 3, 11);
        Check.fault("from 2;from 1;", 3, 12);
        Check.fault("from 9999;from 9999;", 3, 15);
        Check.fault("from 1;from 3;from    2", 3, 22);
        Check.fault("from 10;from 9;", 3, 13);
    }

    private static void ninthPart() {
        Check.edge("4 a ninth part (at the first letter of its 'from')");
        sound(EIGHT, 8);
        sound(EIGHT + "   ", 8);
        SwornCourt x = Check.under("from 1;from 2;from 3;from 4;from 5;from 6;from 7 kin 6;from 8 kin 7 oath 9;");
        int[] kin = {2, 2, 2, 2, 2, 2, 2, 6, 7, 7};
        for (int day = 0; day < 10; day++) Check.due("kin on " + day, x.law(2, 0, day), kin[day]);
        Check.due("the last rule of the eighth", x.law(10, 0, 8), 9);
        Check.fault(EIGHT + "from 9;", 4, 56);
        Check.fault(EIGHT + "  from", 4, 58);
        Check.fault(EIGHT + ";", 1, 56);
    }

    private static void emptyThen() {
        Check.edge("(it is empty then, with a FAULT, too)");
        SwornCourt x = new SwornCourt();
        Check.due("sound", Check.read(x, "from 1;"), 1);
        Check.due("empty", x.read(), -11);
        Check.due("at 0", x.fault(), 0);
        Check.due("a fault", Check.read(x, "from 1; x"), -11);
        Check.due("empty, too", x.feed(1, 32), 1);
        Check.due("at its end", x.read(), -11);
        Check.due("of one blank", x.fault(), 1);
    }

    private static void asItWas() {
        Check.edge("-10 less the number of its FAULT (THE LAW is as it was)");
        SwornCourt x = Check.under("from 3 kin 5;from 4 kin 6;");
        String[] texts = {"from 1 kin 1;from 2 kin 1;from 3 kin 1; x", "from 1 kin 1; from 2 half 2;",
            "from 1 kin 1;from 1;", EIGHT + "from 9;"};
        for (int number = 1; number <= 4; number++) {
            Check.due("fault", Check.read(x, texts[number - 1]), -10 - number);
            Check.due("parts", x.count(3), 2);
            int[] wanted = {2, 2, 2, 5, 6};
            for (int day = 0; day < 5; day++) Check.due("kin on " + day, x.law(2, 0, day), wanted[day]);
        }
        Check.due("a sound one", Check.read(x, "from 4;"), 1);
        Check.due("takes its place", x.law(2, 0, 4), 2);
    }

    private static void chargesAlready() {
        Check.edge("NOT: there are CHARGES already (THE TEXT stays).");
        SwornCourt x = Check.under("from 0 kin 1;");
        Check.people(x, 2);
        x.charge(0, 0, 0, 0);
        Check.due("a charge that was refused is none", Check.read(x, "from 0 kin 5;"), 1);
        x.charge(0, 0, 1, 0);
        Check.due("of no text", x.read(), NOT);
        Check.feed(x, "from 0 kin 3;");
        Check.due("of a sound one", x.read(), NOT);
        Check.due("still there", x.feed(1, 'x'), 14);
        Check.due("of a bad one", x.read(), NOT);
        Check.due("still there, too", x.feed(1, 'x'), 15);
        x.close(0);
        Check.due("of a closed charge", x.read(), NOT);
        Check.due("kin", x.law(2, 0, 0), 5);
        Check.due("parts", x.count(3), 1);
    }

    private static void faultOfTheLatest() {
        Check.edge("The byte of the FAULT of the latest read() that was not NOT; NONE.");
        SwornCourt x = new SwornCourt();
        Check.due("no read yet", x.fault(), NONE);
        Check.feed(x, "xx");
        Check.due("not read yet", x.fault(), NONE);
        x.read();
        Check.due("byte 0 is not NONE", x.fault(), 0);
        Check.read(x, "from x");
        Check.due("the latest", x.fault(), 5);
        Check.read(x, "from 1;");
        Check.due("none", x.fault(), NONE);
        Check.read(x, "from 1;;");
        Check.people(x, 2);
        x.charge(0, 0, 1, 0);
        Check.feed(x, "x");
        Check.due("not", x.read(), NOT);
        Check.due("as ahead of the NOT", x.fault(), 7);
    }

    private static void lawDays() {
        Check.edge("A rule on a day (0 .. 9999)");
        SwornCourt x = new SwornCourt();
        for (int day : new int[] {-1, 10000, MIN, MAX}) Check.due("day " + day, x.law(0, 0, day), OUTSIDE);
        Check.due("day 0", x.law(0, 0, 0), 12);
        Check.due("day 9999, far behind NOW", x.law(0, 0, 9999), 12);
    }

    private static void lawKeys() {
        Check.edge("k the K or R of 0, 1, 8 (0 with others). OUTSIDE.");
        SwornCourt x = new SwornCourt();
        for (int rule = 0; rule <= 10; rule++) {
            boolean keyed = rule == 0 || rule == 1 || rule == 8;
            Check.due("k 0 of " + rule, x.law(rule, 0, 0) >= 0 ? 1 : 0, 1);
            for (int k = 1; k <= 3; k++) Check.due(k + " of " + rule, x.law(rule, k, 0) >= 0 ? 1 : 0, keyed ? 1 : 0);
            for (int k : new int[] {-1, 4, MIN, MAX}) Check.due(k + " of " + rule, x.law(rule, k, 0), OUTSIDE);
        }
    }

    private static void lawRules() {
        Check.edge("rule = 0 need, 1 count, 2 kin, 3 half, 4 feud, 5 false, 6 lost, 7 age, 8 fine, 9 short, 10 oath");
        SwornCourt x = new SwornCourt();
        for (int rule : new int[] {-1, 11, MIN, MAX}) Check.due("rule " + rule, x.law(rule, 0, 0), OUTSIDE);
        x = Check.under("from 0 need 1 20 count 1 21 kin 22 half 1 feud 0 false 25 lost 26 age 27 fine 1 28 short 29 oath 30;");
        int[] wanted = {20, 21, 22, 1, 0, 25, 26, 27, 28, 29, 30};
        for (int rule = 0; rule <= 10; rule++) {
            boolean keyed = rule == 0 || rule == 1 || rule == 8;
            Check.due("rule " + rule, x.law(rule, keyed ? 1 : 0, 0), wanted[rule]);
        }
    }
}
