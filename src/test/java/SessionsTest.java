/** Promises 24 to 27. */
public final class SessionsTest {
    private static final int UNKNOWN = Check.UNKNOWN, OUTSIDE = Check.OUTSIDE, NOT = Check.NOT;

    public static void main(String[] args) {
        bound();
        refused();
        oneCharge();
        without();
        will();
        mostThenFewestThenFirst();
        firstTen();
        spent();
        spentOnTheWay();
        needNothing();
        theFirstPersonHelps();
        lacks();
        Check.end();
    }

    private static void finding(SwornCourt x, int set, int met, int calls, int looks, int spent) {
        Check.due("met of " + set, x.session(set, 0), met);
        Check.due("calls of " + set, x.session(set, 1), calls);
        Check.due("looks of " + set, x.session(set, 2), looks);
        Check.due("spent of " + set, x.session(set, 3), spent);
    }

    private static void bound() {
        SwornCourt x = new SwornCourt();
        Check.due("99", x.bound(99), OUTSIDE);
        Check.due("3001", x.bound(3001), OUTSIDE);
        Check.due("-1", x.bound(-1), OUTSIDE);
        Check.due("100", x.bound(100), 1000);
        Check.due("3000", x.bound(3000), 100);
        Check.due("again", x.bound(3000), 3000);
    }

    private static void refused() {
        SwornCourt x = new SwornCourt();
        Check.people(x, 3);
        for (int c = 0; c < 7; c++) x.charge(0, 0, 1, 0);
        x.close(6);
        Check.due("unknown charge", x.session(1 << 7, 9), UNKNOWN);
        Check.due("unknown charge, too many", x.session(255, 0), UNKNOWN);
        Check.due("bit 31", x.session(Integer.MIN_VALUE, 0), UNKNOWN);
        Check.due("all bits", x.session(-1, 0), UNKNOWN);
        Check.due("empty", x.session(0, 0), OUTSIDE);
        Check.due("six", x.session(63, 0), OUTSIDE);
        Check.due("five", x.session(31, 0), 0);
        Check.due("what 4", x.session(1, 4), OUTSIDE);
        Check.due("what -1", x.session(1, -1), OUTSIDE);
        Check.due("outside ahead of not", x.session(64, 4), OUTSIDE);
        Check.due("one is closed", x.session(65, 0), NOT);
        Check.due("called: unknown in the set", x.called(1 << 7, 0), UNKNOWN);
        Check.due("called: unknown charge", x.called(0, 7), UNKNOWN);
        Check.due("called: charge none", x.called(0, -1), UNKNOWN);
        Check.due("called: empty", x.called(0, 0), OUTSIDE);
        Check.due("called: six", x.called(63, 0), OUTSIDE);
        Check.due("called: not of the set", x.called(1, 1), OUTSIDE);
        Check.due("called: not of the set, closed", x.called(64, 1), OUTSIDE);
        Check.due("called: closed", x.called(65, 0), NOT);
        Check.due("called: nobody", x.called(1, 0), 0);
    }

    private static void oneCharge() {
        SwornCourt x = Check.under("from 0 need 0 4 count 1 2 count 2 0 count 3 4;");
        Check.people(x, 7);
        x.rank(3, 1);
        x.rank(4, 1);
        x.rank(5, 2);
        x.charge(0, 0, 1, 0);
        // 2 and 6 count 1 each, 3 and 4 count 2 each, 5 counts nothing: {3, 4}, {2, 3, 6}, {2, 4, 6}
        finding(x, 1, 1, 2, 3, 0);
        Check.due("called", x.called(1, 0), 1 << 3 | 1 << 4);
        x.rank(6, 3);
        // {6} and {3, 4}; {2, 3} counts 3 alone
        finding(x, 1, 1, 1, 2, 0);
        Check.due("called alone", x.called(1, 0), 1 << 6);
        x.swear(3, 0);
        // lack 2: {4}, {6}; the first of like ones
        finding(x, 1, 1, 1, 2, 0);
        Check.due("the first", x.called(1, 0), 1 << 4);
    }

    private static void without() {
        SwornCourt x = Check.under("from 0 need 0 3 need 1 1;");
        Check.people(x, 4);
        x.charge(0, 0, 1, 0);
        x.charge(1, 0, 1, 0);
        finding(x, 1, 0, 0, 0, 0);
        Check.due("nobody", x.called(1, 0), 0);
        finding(x, 3, 1, 1, 2, 0);
        Check.due("nobody for 0", x.called(3, 0), 0);
        Check.due("the first for 1", x.called(3, 1), 1 << 2);
        x.die(2);
        Check.due("the living", x.called(3, 1), 1 << 3);
    }

    private static void will() {
        SwornCourt x = Check.under("from 0 need 0 1 need 1 9;");
        x.person(0, 0, 0, -1, -1, 1); // 0
        x.person(0, 1, 0, -1, -1, 1); // 1
        x.person(0, 2, 0, -1, -1, 2); // 2
        x.person(0, 3, 0, -1, -1, 1); // 3
        for (int c = 0; c < 4; c++) x.charge(0, 0, 1, 0);
        x.charge(1, 0, 1, 0);
        // 2 for two, 3 for one
        Check.due("three of four", x.session(15, 0), 3);
        Check.due("first", x.called(15, 0), 4);
        Check.due("second", x.called(15, 1), 4);
        Check.due("third", x.called(15, 2), 8);
        Check.due("none last", x.called(15, 3), 0);
        x.swear(2, 4);
        Check.due("two of four", x.session(15, 0), 2);
        x.swear(3, 4);
        Check.due("one of four", x.session(15, 0), 1);
        // only 2 has an oath left: one LOOK a CHARGE
        finding(x, 15, 1, 1, 4, 0);
        x.go(1);
        Check.due("another day", x.session(15, 0), 3);
    }

    private static void mostThenFewestThenFirst() {
        SwornCourt x = Check.under("from 0 need 0 2 need 1 2 count 1 2;");
        x.person(0, 0, 0, -1, -1, 1); // 0
        x.person(0, 1, 0, -1, -1, 1); // 1
        x.person(0, 2, 0, -1, -1, 1); // 2
        x.person(0, 3, 0, -1, -1, 1); // 3
        x.person(0, 4, 1, -1, -1, 1); // 4 counts 2
        x.charge(0, 0, 1, 0);
        x.charge(0, 2, 1, 0);
        // CHARGE 0: {2, 3}, {4}; CHARGE 1: {0, 3}, {4}
        finding(x, 3, 2, 3, 6, 0);
        Check.due("the first of like ones", x.called(3, 0), 1 << 2 | 1 << 3);
        Check.due("the other", x.called(3, 1), 1 << 4);
        x.die(0);
        // CHARGE 1: {4} alone
        Check.due("two are more than one", x.session(3, 0), 2);
        Check.due("dear, but both", x.called(3, 0), 1 << 2 | 1 << 3);
        Check.due("alone the fewest", x.called(1, 0), 1 << 4);
    }

    private static void firstTen() {
        SwornCourt x = Check.under("from 0 need 0 10 need 1 11 count 1 10;");
        Check.people(x, 14);
        x.rank(12, 1);
        x.charge(0, 0, 1, 0);
        x.charge(1, 0, 1, 0);
        // CALLABLE are 2 .. 11
        finding(x, 1, 1, 10, 1, 0);
        Check.due("the ten", x.called(1, 0), 0xffc);
        Check.due("eleven are not", x.session(2, 0), 0);
        x.die(5);
        // 12 stands in for 5
        Check.due("one is enough", x.called(1, 0), 1 << 12);
        x.swear(2, 0);
        Check.due("those who swore make room", x.called(1, 0), 1 << 12);
        Check.due("and 12 counts", x.session(1, 1), 1);
    }

    private static void spent() {
        SwornCourt x = Check.under("from 0 need 0 5;");
        Check.people(x, 12);
        for (int c = 0; c < 3; c++) x.charge(0, 0, 1, 0);
        // each has 252 SETS of five of ten
        x.bound(252);
        finding(x, 1, 1, 5, 252, 0);
        x.bound(251);
        finding(x, 1, 1, 5, 251, 1);
        Check.due("the first", x.called(1, 0), 0x7c);
        x.bound(100);
        finding(x, 7, 3, 15, 100, 1);
        Check.due("third, first", x.called(7, 2), 0x7c);
    }

    /** The way at which the search ends counts, with none for the CHARGES that are left. */
    private static void spentOnTheWay() {
        SwornCourt x = Check.under("from 0 need 0 4 need 1 1 count 1 4;");
        for (int p = 0; p < 12; p++) x.person(0, p % 8, 0, -1, -1, 1);
        x.person(0, 0, 1, -1, -1, 4);
        x.die(11);
        x.charge(0, 0, 1, 0);
        x.charge(0, 0, 1, 0);
        // CALLABLE are 2 .. 10 and 12: 126 SETS of four, and 12 alone as the last, by rising numbers.
        // With four of nine gone, five are left: 5 SETS and 12 alone, so a first SET takes 1 + 6 LOOKS.
        x.bound(126 * 7 + 1);
        finding(x, 3, 2, 5, 126 * 7 + 1, 1);
        x.bound(100);
        finding(x, 3, 2, 5, 100, 1);
        finding(x, 1, 1, 4, 100, 1);
        x.bound(127);
        finding(x, 1, 1, 1, 127, 0);
        Check.due("12 alone", x.called(1, 0), 1 << 12);
        bestIsUnfinished();
    }

    /** CHARGE 0: 2 with four of 3 .. 10 (70 SETS), 11 alone as the last; CHARGE 1: one of 3 .. 10; CHARGE 2: 2 alone. */
    private static void bestIsUnfinished() {
        SwornCourt x = Check.under("from 0 need 0 9 count 0 1 count 1 5 count 2 9; from 1 need 0 1 count 1 0 count 2 0;"
            + " from 2 count 0 0 count 1 1;");
        for (int p = 0; p < 12; p++) {
            int rank = p == 2 ? 1 : p == 11 ? 2 : 0;
            x.person(0, p % 8, rank, -1, -1, p == 2 ? 1 : 4);
        }
        x.go(2);
        for (int c = 0; c < 3; c++) x.charge(0, 0, 1, c);
        // 2 is needed for each of the 70, and then there is nobody for CHARGE 2: 70 times 1 + 8 LOOKS
        x.bound(630);
        finding(x, 7, 2, 6, 630, 1);
        x.bound(631);
        finding(x, 7, 2, 6, 631, 1);
        Check.due("2, 3, 4, 5, 6", x.called(7, 0), 0x7c);
        x.bound(632);
        finding(x, 7, 2, 2, 632, 1);
        Check.due("11 alone", x.called(7, 0), 1 << 11);
        Check.due("3", x.called(7, 1), 1 << 3);
        Check.due("not gone through", x.called(7, 2), 0);
        x.bound(633);
        finding(x, 7, 3, 3, 633, 1);
    }

    private static void needNothing() {
        SwornCourt x = Check.under("from 0 need 0 0;");
        Check.people(x, 3);
        x.charge(0, 0, 1, 0);
        Check.due("open till an oath", x.count(5), 1);
        finding(x, 1, 1, 0, 1, 0);
        Check.due("nobody is needed", x.called(1, 0), 0);
        Check.due("met", x.swear(2, 0), 1);
        Check.due("decided", x.count(6), 1);
    }

    private static void theFirstPersonHelps() {
        SwornCourt x = Check.under("from 0 need 0 1;");
        for (int p = 0; p < 3; p++) x.person(0, p, 0, -1, -1, 1);
        for (int c = 0; c < 3; c++) x.charge(0, 1, 2, 0);
        // one CHARGE after the other, or none: 1 for each
        finding(x, 7, 1, 1, 3, 0);
        Check.due("0 is called", x.called(7, 0), 1);
        Check.due("0 is in sight", x.lacks(2), 0);
        x.swear(0, 1);
        finding(x, 5, 0, 0, 0, 0);
        Check.due("0 swore for another one, but is not barred", x.lacks(2), 0);
        x.go(1);
        finding(x, 5, 1, 1, 2, 0);
        x = Check.under("from 0 need 0 1;");
        for (int p = 0; p < 3; p++) x.person(0, p, 0, -1, -1, 2);
        for (int c = 0; c < 3; c++) x.charge(0, 1, 2, 0);
        finding(x, 7, 2, 2, 6, 0);
    }

    private static void lacks() {
        SwornCourt x = Check.under("from 0 need 0 20 count 1 3;");
        Check.people(x, 14);
        x.charge(0, 0, 1, 0);
        x.charge(0, 0, 1, 0);
        Check.due("unknown", x.lacks(2), UNKNOWN);
        Check.due("all twelve, beyond ten too", x.lacks(0), 8);
        x.swear(2, 0);
        Check.due("as before", x.lacks(0), 8);
        x.rank(3, 1);
        Check.due("rank now", x.lacks(0), 6);
        x.die(4);
        Check.due("the dead", x.lacks(0), 7);
        x.rank(5, 1);
        x.rank(6, 1);
        x.rank(7, 1);
        x.rank(8, 1);
        Check.due("none", x.lacks(0), 0);
        x.close(0);
        Check.due("not open", x.lacks(0), NOT);
        Check.due("unknown below", x.lacks(-1), UNKNOWN);
    }
}
