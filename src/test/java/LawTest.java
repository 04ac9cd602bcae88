/** Promises 10 to 13. */
public final class LawTest {
    private static final int NONE = Check.NONE, OUTSIDE = Check.OUTSIDE, NOT = Check.NOT, FULL = Check.FULL;

    public static void main(String[] args) {
        feed();
        read();
        readAnew();
        bytesOfAnEarlierText();
        faultOne();
        faultTwo();
        faultThreeAndFour();
        fault();
        law();
        Check.end();
    }

    private static void feed() {
        SwornCourt x = new SwornCourt();
        Check.due("feed 0", x.feed(0, 1), OUTSIDE);
        Check.due("feed 9", x.feed(9, 1), OUTSIDE);
        Check.due("feed -1", x.feed(-1, 1), OUTSIDE);
        Check.due("only the lowest byte", x.feed(1, 0x7777777777777720L), 1);
        Check.due("the highest first", x.feed(4, 0x66726f6dL), 5);
        Check.due("more", x.feed(3, 0x2037203bL >> 8), 8);
        Check.due("the end", x.feed(1, ';'), 9);
        Check.due("read it", x.read(), 1);
        for (int i = 1; i <= 29; i++) Check.due("fill", x.feed(8, 0x2020202020202020L), i * 8);
        Check.due("to 239", x.feed(7, 0x20202020202020L), 239);
        Check.due("one too many", x.feed(2, 0x2020L), FULL);
        Check.due("outside ahead of full", x.feed(9, 0L), OUTSIDE);
        Check.due("nothing changed", x.feed(1, 0x20L), 240);
        Check.due("full", x.feed(1, 0x20L), FULL);
        Check.due("all blanks", x.read(), -11);
        Check.due("fault at the length", x.fault(), 240);
        Check.due("empty again", x.feed(8, 0L), 8);
    }

    private static void read() {
        SwornCourt x = new SwornCourt();
        Check.due("one part without rules", Check.read(x, "from 3;"), 1);
        Check.due("blanks anywhere", Check.read(x, "  from   3  need  0   5  ;  from 4 ; "), 2);
        Check.due("parts", x.count(3), 2);
        Check.due("it says", x.law(0, 0, 3), 5);
        Check.due("side by side", Check.read(x, "from1need1 7count2 0age99;from2kin0fine3 9999;"), 2);
        Check.due("need", x.law(0, 1, 1), 7);
        Check.due("count", x.law(1, 2, 1), 0);
        Check.due("age", x.law(7, 0, 1), 99);
        Check.due("kin", x.law(2, 0, 2), 0);
        Check.due("fine", x.law(8, 3, 2), 9999);
        Check.due("figures", Check.read(x, "from 0000 need 0003 0099 half 0001 false 9999;"), 1);
        Check.due("K with four figures", x.law(0, 3, 0), 99);
        Check.due("as much as can be said", Check.read(x, "from 0 kin 9999 lost 9999 age 9999 short 9999 oath 9999;"), 1);
        for (int rule : new int[] {2, 6, 7, 9, 10}) Check.due("rule " + rule, x.law(rule, 0, 0), 9999);
        Check.due("twice in a part", Check.read(x, "from 0 oath 1 oath 2 short 3;"), 1);
        Check.due("the later one", x.law(10, 0, 0), 2);
        Check.due("the last day", Check.read(x, "from 9999 feud 0 lost 7;"), 1);
        Check.due("ahead of it", x.law(4, 0, 9998), 1);
        Check.due("on it", x.law(4, 0, 9999), 0);
        Check.due("eight parts", Check.read(x, "from 1;from 2;from 3;from 4;from 5;from 6;from 7;from 8 kin 7;"), 8);
        Check.due("the eighth", x.law(2, 0, 8), 7);
        Check.due("ahead of the eighth", x.law(2, 0, 7), 2);
        Check.people(x, 2);
        x.charge(0, 0, 1, 0);
        Check.due("text ahead", Check.feed(x, "from 1;"), 7);
        Check.due("charges already", x.read(), NOT);
        Check.due("the text stays", x.feed(1, 32), 8);
        Check.due("the law stays", x.count(3), 8);
    }

    private static void readAnew() {
        SwornCourt x = Check.under("from 0 need 0 2 age 5; from 10 need 0 3;");
        Check.due("fault", Check.read(x, "from 0 need 0 7; bad"), -11);
        Check.due("as it was", x.law(0, 0, 0), 2);
        Check.due("parts as they were", x.count(3), 2);
        Check.due("another law", Check.read(x, "from 20 kin 1;"), 1);
        Check.due("as at first", x.law(0, 0, 10), 12);
        Check.due("age as at first", x.law(7, 0, 30), 0);
        Check.due("kin said", x.law(2, 0, 20), 1);
    }

    private static void bytesOfAnEarlierText() {
        SwornCourt x = new SwornCourt();
        Check.read(x, "from 12 kin 34;from 5678 kin 1;");
        Check.due("no end", Check.read(x, "from 1"), -11);
        Check.due("at its own length", x.fault(), 6);
        Check.due("no end of a rule", Check.read(x, "from 1 kin 34"), -11);
        Check.due("at its own length, too", x.fault(), 13);
        Check.due("no figures of the earlier one", Check.read(x, "from 12 kin 3;from 56"), -11);
        Check.due("nor its rules", x.fault(), 21);
        String longest = "from 1" + " ".repeat(234);
        Check.due("240 bytes without an end", Check.read(x, longest), -11);
        Check.due("at 240", x.fault(), 240);
        Check.due("240 bytes", Check.read(x, longest.substring(0, 239) + ";"), 1);
        Check.due("240 bytes of figures", Check.read(x, "from 1 kin" + "7".repeat(230)), -12);
        Check.due("at the first", x.fault(), 10);
        Check.due("240 letters", Check.read(x, "k".repeat(240)), -11);
        Check.due("many rules", Check.read(x, "from1" + "kin2".repeat(58) + ";"), 1);
    }

    private static void faultOne() {
        Check.fault("", 1, 0);
        Check.fault("   ", 1, 3);
        Check.fault("need 0 1;", 1, 0);
        Check.fault(" fro 1;", 1, 1);
        Check.fault("fromm 1;", 1, 0);
        Check.fault("From 1;", 1, 0);
        Check.fault("grom 1;", 1, 0);
        Check.fault("fromz 1;", 1, 0);
        Check.fault("froma 1;", 1, 0);
        Check.fault("from 1 beed 0 1;", 1, 7);
        Check.fault("fromA 1;", 1, 4);
        Check.fault("from;", 1, 4);
        Check.fault("from", 1, 4);
        Check.fault("from  ", 1, 6);
        Check.fault("from x1;", 1, 5);
        Check.fault("from 1", 1, 6);
        Check.fault("from 1 2;", 1, 7);
        Check.fault("from 1 12345;", 1, 7);
        Check.fault("from 1 from 2;", 1, 7);
        Check.fault("from 1 kin;", 1, 10);
        Check.fault("from 1 kin kin 2;", 1, 11);
        Check.fault("from 1 needs 0 1;", 1, 7);
        Check.fault("from 1 kinhalf 1;", 1, 7);
        Check.fault("from 1 need 0;", 1, 13);
        Check.fault("from 1 need 0 ", 1, 14);
        Check.fault("from 1 need 0 x;", 1, 14);
        Check.fault("from 1 kin 2\t;", 1, 12);
        Check.fault("from 1 kin -2;", 1, 11);
        Check.fault("from 1;;", 1, 7);
        Check.fault("from 1; kin 2;", 1, 8);
        Check.fault("from 1; 7", 1, 8);
        Check.fault("from 1;" + (char) 233, 1, 7);
        Check.fault("from 1;" + (char) 0, 1, 7);
        Check.fault("from 1;from 2;from 3;from 4;from 5;from 6;from 7;from 8;kin 9;", 1, 56);
    }

    private static void faultTwo() {
        Check.fault("from 12345;", 2, 5);
        Check.fault("from 00001;", 2, 5);
        Check.fault("from12345678901234567890;", 2, 4);
        Check.fault("from 1 need 4 1;", 2, 12);
        Check.fault("from 1 need 0004 1;", 2, 12);
        Check.fault("from 1 count 9 1;", 2, 13);
        Check.fault("from 1 fine 4 1;", 2, 12);
        Check.fault("from 1 need 0 100;", 2, 14);
        Check.fault("from 1 count 0 100;", 2, 15);
        Check.fault("from 1 half 2;", 2, 12);
        Check.fault("from 1 feud 2;", 2, 12);
        Check.fault("from 1 kin 00000;", 2, 11);
        Check.fault("from 1 need 00000 1;", 2, 12);
        Check.fault("from 5;from 00001;", 2, 12);
        Check.fault("from 1 half 2 bad", 2, 12);
    }

    private static void faultThreeAndFour() {
        Check.fault("from 5;from 5;", 3, 12);
        Check.fault("from 5;from  4 bad", 3, 13);
        Check.fault("from 9999;from 0;", 3, 15);
        Check.fault("from 1;from 2;from 3;from 4;from 5;from 6;from 7;from 8; from 1", 4, 57);
        Check.fault("from 1;from 2;from 3;from 4;from 5;from 6;from 7;from 8;from", 4, 56);
        Check.fault("from 1;from 2;from 3;from 4;from 5;from 6;from 7;from 7;from 9;", 3, 54);
    }

    private static void fault() {
        SwornCourt x = new SwornCourt();
        Check.due("none at first", x.fault(), NONE);
        Check.due("bad", Check.read(x, "from 1 bad"), -11);
        Check.due("its byte", x.fault(), 7);
        Check.due("still its byte", x.fault(), 7);
        Check.people(x, 2);
        x.charge(0, 0, 1, 0);
        Check.due("not now", x.read(), NOT);
        Check.due("of the latest that was not NOT", x.fault(), 7);
        x = new SwornCourt();
        Check.read(x, "bad");
        Check.read(x, "from 1;");
        Check.due("none again", x.fault(), NONE);
    }

    private static void law() {
        SwornCourt x = Check.under("from 10 need 1 3 count 2 4 kin 5 half 1 feud 0 false 6 lost 7 age 8 fine 3 9 short 10"
            + " oath 11; from 20 need 1 30; from 30 need 0 1 kin 50;");
        int[] rules = {0, 1, 2, 3, 4, 5, 6, 7, 8, 9, 10};
        int[] keys = {1, 2, 0, 0, 0, 0, 0, 0, 3, 0, 0};
        int[] first = {12, 1, 2, 0, 1, 0, 0, 0, 10, 0, 0};
        int[] then = {3, 4, 5, 1, 0, 6, 7, 8, 9, 10, 11};
        for (int i = 0; i <= 10; i++) {
            Check.due("rule ahead " + i, x.law(rules[i], keys[i], 9), first[i]);
            Check.due("rule from then " + i, x.law(rules[i], keys[i], 10), then[i]);
        }
        Check.due("till the day ahead", x.law(0, 1, 19), 3);
        Check.due("anew", x.law(0, 1, 20), 30);
        Check.due("it holds on", x.law(0, 1, 9999), 30);
        Check.due("another K", x.law(0, 0, 29), 12);
        Check.due("another K later", x.law(0, 0, 30), 1);
        Check.due("kin later", x.law(2, 0, 30), 50);
        Check.due("rule 11", x.law(11, 0, 0), OUTSIDE);
        Check.due("rule -1", x.law(-1, 0, 0), OUTSIDE);
        Check.due("day 10000", x.law(0, 0, 10000), OUTSIDE);
        Check.due("day -1", x.law(0, 0, -1), OUTSIDE);
        for (int rule = 0; rule <= 10; rule++) {
            boolean keyed = rule == 0 || rule == 1 || rule == 8;
            Check.due("k 3 of " + rule, x.law(rule, 3, 0) == OUTSIDE ? 1 : 0, keyed ? 0 : 1);
            Check.due("k 4 of " + rule, x.law(rule, 4, 0), OUTSIDE);
            Check.due("k -1 of " + rule, x.law(rule, -1, 0), OUTSIDE);
        }
    }
}
