/** Promises 24 to 27: each sentence of the document that names a limit or a refusal. */
public final class SessionsEdgesTest {
    private static final int NONE = Check.NONE, UNKNOWN = Check.UNKNOWN, OUTSIDE = Check.OUTSIDE, NOT = Check.NOT;
    private static final int MIN = Integer.MIN_VALUE, MAX = Integer.MAX_VALUE;

    public static void main(String[] args) {
        bounds();
        bits();
        oneToFive();
        setsRefused();
        oneIsNotOpen();
        calledRefused();
        calledNobody();
        calledBits();
        firstTen();
        tenWithoutOthers();
        spentPersonsTakeRoom();
        lackOrMore();
        withoutAnyOne();
        lackOfNone();
        willLessOaths();
        willOfTheFirst();
        mostCharges();
        fewestCalls();
        theFirst();
        risingNumbers();
        noneLast();
        looksWithinWill();
        aboveBound();
        atBound();
        tillThen();
        boundOfNow();
        nothingIsSworn();
        shortOfHelp();
        allPersons();
        lacksRefused();
        Check.end();
    }

    private static SwornCourt court(String law, int persons, int will) {
        SwornCourt x = Check.under(law);
        for (int i = 0; i < persons; i++) x.person(-9000, i % 8, 0, NONE, NONE, will);
        return x;
    }

    private static void charges(SwornCourt x, int n) {
        for (int i = 0; i < n; i++) x.charge(0, 0, 1, 0);
    }

    private static void finding(SwornCourt x, int set, int met, int calls, int looks, int spent) {
        Check.due("met of " + set, x.session(set, 0), met);
        Check.due("calls of " + set, x.session(set, 1), calls);
        Check.due("looks of " + set, x.session(set, 2), looks);
        Check.due("spent of " + set, x.session(set, 3), spent);
    }

    private static void bounds() {
        Check.edge("BOUND (100 .. 3000; 1000 at first)");
        SwornCourt x = new SwornCourt();
        for (int v : new int[] {99, 3001, 0, -1, -100, MIN, MAX}) Check.due("bound " + v, x.bound(v), OUTSIDE);
        Check.due("it was 1000", x.bound(100), 1000);
        for (int v : new int[] {99, 3001}) Check.due("bound " + v, x.bound(v), OUTSIDE);
        Check.due("it was 100", x.bound(3000), 100);
        Check.due("it was 3000", x.bound(3000), 3000);
    }

    private static void bits() {
        Check.edge("A SET is a whole number, bit k for k.");
        SwornCourt x = court("from 0 need 0 1;", 3, 4);
        charges(x, 20);
        Check.due("charge 19 alone", x.session(1 << 19, 0), 1);
        Check.due("its person", x.called(1 << 19, 19), 1 << 2);
        Check.due("0 and 19", x.session(1 << 19 | 1, 0), 2);
        for (int k = 20; k <= 31; k++) {
            Check.due("bit " + k, x.session(1 << k, 0), UNKNOWN);
            Check.due("bit " + k + " and one that there is", x.session(1 << k | 1, 0), UNKNOWN);
            Check.due("called by bit " + k, x.called(1 << k | 1, 0), UNKNOWN);
        }
        for (int set : new int[] {-1, -2, MIN, MAX, 0xfff00000}) Check.due("set " + set, x.session(set, 0), UNKNOWN);
    }

    private static void oneToFive() {
        Check.edge("for a SET of OPEN CHARGES (1 to 5 of them)");
        SwornCourt x = court("from 0 need 0 1;", 3, 4);
        Check.due("none of none", x.session(0, 0), OUTSIDE);
        charges(x, 20);
        Check.due("none", x.session(0, 0), OUTSIDE);
        Check.due("called of none", x.called(0, 0), OUTSIDE);
        int[] met = {1, 2, 3, 4, 4};
        for (int n = 1; n <= 20; n++) {
            int set = (1 << n) - 1;
            Check.due("the first " + n, x.session(set, 0), n <= 5 ? met[n - 1] : OUTSIDE);
            Check.due("called of the first " + n, x.called(set, 0), n <= 5 ? 1 << 2 : OUTSIDE);
        }
        Check.due("five, far off", x.session(31 << 15, 0), 4);
        Check.due("six, far off", x.session(63 << 14, 0), OUTSIDE);
    }

    private static void setsRefused() {
        Check.edge("UNKNOWN (a CHARGE of the SET that there is not), OUTSIDE; NOT: one is not OPEN.");
        SwornCourt x = court("from 0 need 0 1;", 4, 4);
        charges(x, 7);
        x.close(1);
        for (int what : new int[] {-1, 4, MIN, MAX}) {
            Check.due("what " + what, x.session(1, what), OUTSIDE);
            Check.due("OUTSIDE ahead of NOT, what " + what, x.session(2, what), OUTSIDE);
            Check.due("UNKNOWN ahead of all, what " + what, x.session(130, what), UNKNOWN);
        }
        Check.due("OUTSIDE ahead of NOT, six", x.session(63, 0), OUTSIDE);
        Check.due("UNKNOWN ahead of OUTSIDE, seven", x.session(191, 0), UNKNOWN);
        Check.due("NOT", x.session(3, 0), NOT);
        Check.due("all open", x.session(5, 0), 2);
    }

    private static void oneIsNotOpen() {
        Check.edge("NOT: one is not OPEN.");
        SwornCourt x = court("from 0 need 0 1 false 9;", 6, 4);
        charges(x, 6);
        x.swear(2, 0);
        x.swear(3, 1);
        x.close(2);
        x.swear(3, 3);
        x.find(1);
        int[] states = {1, 3, 2, 2};
        for (int c = 0; c <= 3; c++) {
            Check.due("state of " + c, x.state(c, 0, 0), states[c]);
            for (int what = 0; what <= 3; what++) Check.due("charge " + c, x.session(1 << c, what), NOT);
            Check.due("with an open one, " + c, x.session(1 << c | 1 << 4, 0), NOT);
            Check.due("called, " + c, x.called(1 << c | 1 << 4, 4), NOT);
        }
        Check.due("open ones", x.session(3 << 4, 0), 2);
    }

    private static void calledRefused() {
        Check.edge("UNKNOWN, OUTSIDE (c not of the SET, too), NOT.");
        SwornCourt x = court("from 0 need 0 1;", 4, 4);
        charges(x, 7);
        x.close(6);
        for (int c : new int[] {-1, 7, 31, 32, MIN, MAX}) {
            Check.due("charge " + c, x.called(1, c), UNKNOWN);
            Check.due("charge " + c + " of none", x.called(0, c), UNKNOWN);
        }
        Check.due("a set with one that there is not", x.called(129, 0), UNKNOWN);
        for (int c = 1; c < 7; c++) Check.due("not of the set " + c, x.called(1, c), OUTSIDE);
        Check.due("six", x.called(63, 0), OUTSIDE);
        Check.due("OUTSIDE ahead of NOT", x.called(64, 0), OUTSIDE);
        Check.due("NOT", x.called(64, 6), NOT);
        Check.due("NOT for another of the set", x.called(65, 0), NOT);
        // a shift by 32 or 33 would take them for 0 and 1
        Check.due("charge 33", x.called(3, 33), UNKNOWN);
    }

    private static void calledNobody() {
        Check.edge("(0: none; PERSON k is bit k)");
        SwornCourt x = court("from 0 need 0 3 need 1 2;", 4, 4);
        x.charge(0, 0, 1, 0);
        x.charge(1, 0, 1, 0);
        Check.due("nobody for what cannot be met", x.called(3, 0), 0);
        Check.due("two for the other", x.called(3, 1), 1 << 2 | 1 << 3);
        x = new SwornCourt();
        for (int i = 0; i < 2; i++) x.person(0, 0, 0, NONE, NONE, 1);
        x.charge(0, 0, 1, 0);
        finding(x, 1, 0, 0, 0, 0);
        Check.due("nobody is there", x.called(1, 0), 0);
    }

    private static void calledBits() {
        Check.edge("PERSONS called for a CHARGE c of the SET, as a SET");
        SwornCourt x = court("from 0 need 0 3;", 30, 4);
        charges(x, 1);
        for (int p = 2; p < 28; p++) x.die(p);
        finding(x, 1, 0, 0, 0, 0);
        x.charge(0, 3, 4, 0);
        Check.due("0, 1 and 28", x.called(2, 1), 3 | 1 << 28);
        x.die(0);
        Check.due("1, 28 and 29", x.called(2, 1), 2 | 3 << 28);
    }

    private static void firstTen() {
        Check.edge("the first ten PERSONS by numbers that are not BARRED as KNOWN now and have not sworn for it");
        SwornCourt x = court("from 0 need 0 10;from 1 need 0 11;", 14, 4);
        x.go(1);
        x.charge(0, 0, 1, 0);
        x.charge(0, 0, 1, 1);
        finding(x, 1, 1, 10, 1, 0);
        Check.due("2 to 11", x.called(1, 0), 0xffc);
        finding(x, 2, 0, 0, 0, 0);
        x.die(4);
        Check.due("2 to 12 without the dead", x.called(1, 0), 0x1fec);
        x.feud(0, 2);
        Check.due("2 to 13 without those barred", x.called(1, 0), 0);
        x.peace(0, 2);
        Check.due("as before", x.called(1, 0), 0x1fec);
        x.swear(2, 0);
        x.swear(2, 1);
        // nine of 3, 5 .. 13: ten, of these one is left over
        Check.due("without one who swore", x.called(1, 0), 0xfe8 | 1 << 12);
        Check.due("calls", x.session(1, 1), 9);
        Check.due("ten of ten for 11 less one", x.called(2, 1), 0x3fe8);
    }

    private static void tenWithoutOthers() {
        Check.edge("the first ten PERSONS by numbers");
        SwornCourt x = court("from 0 need 0 9 count 0 1 count 1 9;", 14, 4);
        charges(x, 1);
        x.rank(12, 1);
        finding(x, 1, 1, 9, 10, 0);
        Check.due("the eleventh alone would do, but is not callable", x.called(1, 0), 0x7fc);
        x.rank(11, 1);
        Check.due("the tenth does", x.called(1, 0), 1 << 11);
    }

    /** CALLABLE goes by BARRED and by oaths for the CHARGE, not by WILL. */
    private static void spentPersonsTakeRoom() {
        Check.edge("CALLABLE for a CHARGE");
        SwornCourt x = court("from 0 need 0 1;from 1 need 0 9;", 13, 1);
        x.go(1);
        x.charge(0, 0, 1, 0);
        x.charge(0, 0, 1, 1);
        for (int p = 2; p <= 11; p++) Check.due("one of nine", x.swear(p, 1) == NOT ? 1 : 0, p < 11 ? 0 : 1);
        x.charge(0, 0, 1, 1);
        x.swear(11, 2);
        // the ten that swore today come first and have no oath left; 12 is the eleventh
        finding(x, 1, 0, 0, 0, 0);
        x.go(1);
        finding(x, 1, 1, 1, 10, 0);
    }

    private static void lackOrMore() {
        Check.edge("ENOUGH is a SET of these that COUNT LACK or more together");
        SwornCourt x = court("from 0 need 0 5 count 1 3;", 6, 4);
        charges(x, 1);
        finding(x, 1, 0, 0, 0, 0);
        x.rank(2, 1);
        // 3 + 1 + 1 of 2, with two of 3, 4, 5
        finding(x, 1, 1, 3, 3, 0);
        x.rank(3, 1);
        // 3 + 3 is more than LACK
        Check.due("2 and 3", x.called(1, 0), 3 << 2);
        finding(x, 1, 1, 2, 3, 0);
        x.swear(4, 0);
        finding(x, 1, 1, 2, 3, 0);
        Check.due("2 and 3 of four", x.called(1, 0), 3 << 2);
        x.swear(5, 0);
        Check.due("both, for three", x.session(1, 2), 2);
        Check.due("2 alone", x.called(1, 0), 1 << 2);
    }

    private static void withoutAnyOne() {
        Check.edge("and without any one of them less");
        SwornCourt x = court("from 0 need 0 4 count 1 2 count 2 4 count 3 0;", 6, 4);
        charges(x, 1);
        x.rank(2, 2);
        x.rank(3, 1);
        x.rank(4, 1);
        x.rank(5, 3);
        // {2}, {3, 4}; none with 5, who counts nothing
        finding(x, 1, 1, 1, 2, 0);
        x.rank(2, 3);
        finding(x, 1, 1, 2, 1, 0);
        x.rank(3, 0);
        // 1 + 2 + 0 + 0
        finding(x, 1, 0, 0, 0, 0);
    }

    private static void lackOfNone() {
        Check.edge("ENOUGH is a SET of these that COUNT LACK or more together, and without any one of them less.");
        SwornCourt x = court("from 0 need 0 0 need 1 1;", 4, 1);
        x.charge(0, 0, 1, 0);
        x.charge(1, 0, 1, 0);
        finding(x, 1, 1, 0, 1, 0);
        Check.due("nobody", x.called(1, 0), 0);
        finding(x, 3, 2, 1, 5, 0);
        Check.due("nobody for 0", x.called(3, 0), 0);
        Check.due("2 for 1", x.called(3, 1), 1 << 2);
    }

    private static void willLessOaths() {
        Check.edge("no PERSON in more SETS than WILL less its oaths today");
        for (int will = 1; will <= 4; will++) {
            SwornCourt x = court("from 0 need 0 1;from 1 need 0 9;", 2, 4);
            x.person(-9000, 2, 0, NONE, NONE, will);
            x.go(1);
            charges(x, 5);
            for (int c = 0; c < 4; c++) x.charge(0, 0, 1, 1);
            for (int sworn = 0; sworn <= will; sworn++) {
                Check.due("will " + will + ", sworn " + sworn, x.session(31, 0), will - sworn);
                Check.due("calls", x.session(31, 1), will - sworn);
                if (sworn < will) x.swear(2, 5 + sworn);
            }
            x.go(1);
            Check.due("the next day", x.session(31, 0), will);
        }
    }

    private static void willOfTheFirst() {
        Check.edge("no PERSON in more SETS than WILL less its oaths today");
        SwornCourt x = Check.under("from 0 need 0 1;");
        for (int p = 0; p < 3; p++) x.person(-9000, p, 0, NONE, NONE, 2);
        for (int c = 0; c < 4; c++) x.charge(0, 1, 2, 0);
        // LOOKS: one for 0, two with one for 1, three for 2 (where both others have it, 0 has no oath left)
        finding(x, 7, 2, 2, 6, 0);
        Check.due("it helps", x.lacks(3), 0);
        x.swear(0, 3);
        Check.due("and then for one", x.session(7, 0), 1);
        x.swear(0, 2);
        Check.due("and then for none", x.session(3, 0), 0);
    }

    private static void mostCharges() {
        Check.edge("the most CHARGES with one; of like ones the fewest CALLS");
        SwornCourt x = court("from 0 need 0 3 need 1 1;", 5, 1);
        x.charge(0, 0, 1, 0);
        x.charge(1, 0, 1, 0);
        x.charge(1, 0, 1, 0);
        // CHARGE 0 would take all three: one met, 1 LOOK; without it two are: 3 times 1 + 2, and 3
        finding(x, 7, 2, 2, 13, 0);
        Check.due("none for 0", x.called(7, 0), 0);
        Check.due("2 for 1", x.called(7, 1), 1 << 2);
        Check.due("3 for 2", x.called(7, 2), 1 << 3);
    }

    private static void fewestCalls() {
        Check.edge("the fewest CALLS (members of all SETS)");
        SwornCourt x = court("from 0 need 0 3 count 1 3;", 6, 1);
        charges(x, 1);
        x.rank(5, 1);
        // {2, 3, 4} comes first, {5} has fewer
        finding(x, 1, 1, 1, 2, 0);
        Check.due("5 alone", x.called(1, 0), 1 << 5);
    }

    private static void theFirst() {
        Check.edge("of these the first, CHARGE by CHARGE by numbers");
        SwornCourt x = court("from 0 need 0 1;", 4, 1);
        charges(x, 3);
        finding(x, 6, 2, 2, 6, 0);
        Check.due("the first for the first", x.called(6, 1), 1 << 2);
        Check.due("the second for the second", x.called(6, 2), 1 << 3);
        Check.due("two of three: the first", x.called(7, 0), 1 << 2);
        Check.due("the second", x.called(7, 1), 1 << 3);
        Check.due("not the third", x.called(7, 2), 0);
    }

    private static void risingNumbers() {
        Check.edge("SETS of CALLABLE ones (bit k: the k-th of them) by rising numbers");
        SwornCourt x = court("from 0 need 0 2;", 6, 4);
        charges(x, 1);
        // {2, 3}, {2, 4}, {3, 4} rise as 3, 5, 6: then {2, 5} as 9
        Check.due("2 and 3", x.called(1, 0), 3 << 2);
        x.die(3);
        Check.due("2 and 4", x.called(1, 0), 5 << 2);
        x.die(2);
        Check.due("4 and 5", x.called(1, 0), 3 << 4);
        x = court("from 0 need 0 3 count 1 2;", 6, 4);
        charges(x, 1);
        x.rank(4, 1);
        x.rank(5, 1);
        // of two each: {2, 4} as 5, {3, 4} as 6, {2, 5} as 9, {3, 5} as 10, {4, 5} as 12
        finding(x, 1, 1, 2, 5, 0);
        Check.due("2 and 4", x.called(1, 0), 5 << 2);
        x.die(2);
        Check.due("3 and 4", x.called(1, 0), 3 << 3);
    }

    private static void noneLast() {
        Check.edge("by rising numbers, none last");
        SwornCourt x = court("from 0 need 0 1;", 3, 1);
        charges(x, 2);
        // one of the two: the first CHARGE has it, as none comes last
        finding(x, 3, 1, 1, 2, 0);
        Check.due("the first", x.called(3, 0), 1 << 2);
        Check.due("none for the second", x.called(3, 1), 0);
    }

    private static void looksWithinWill() {
        Check.edge("each SET that is ENOUGH and within WILL is a LOOK");
        SwornCourt x = court("from 0 need 0 1;", 4, 1);
        charges(x, 2);
        // {2}: {3}; {3}: {2}; none: {2}, {3}
        finding(x, 3, 2, 2, 6, 0);
        x = court("from 0 need 0 1;", 4, 2);
        charges(x, 2);
        finding(x, 3, 2, 2, 8, 0);
        x = court("from 0 need 0 2;", 4, 1);
        charges(x, 2);
        finding(x, 3, 1, 2, 2, 0);
    }

    /** 252 SETS of five of ten for CHARGE 0. */
    private static void aboveBound() {
        Check.edge("the search is SPENT, and ends, where LOOKS would be above BOUND");
        SwornCourt x = court("from 0 need 0 5;", 12, 1);
        charges(x, 1);
        for (int v = 250; v <= 253; v++) {
            x.bound(v);
            finding(x, 1, 1, 5, Math.min(v, 252), v < 252 ? 1 : 0);
        }
    }

    private static void atBound() {
        Check.edge("where LOOKS would be above BOUND (100 .. 3000; 1000 at first)");
        SwornCourt x = court("from 0 need 0 1;", 12, 1);
        charges(x, 3);
        // 10 + (10 + 1) * 10 less those who are taken: 10 for the first, 9 and 10 for the second, ..
        finding(x, 3, 2, 2, 110, 0);
        x.bound(110);
        finding(x, 3, 2, 2, 110, 0);
        x.bound(109);
        finding(x, 3, 2, 2, 109, 1);
        x.bound(1020);
        finding(x, 7, 3, 3, 1020, 0);
        x.bound(1019);
        finding(x, 7, 3, 3, 1019, 1);
        x.bound(3000);
        charges(x, 2);
        finding(x, 31, 5, 5, 3000, 1);
    }

    /** CHARGE 0: {2 .. 5} and the like (126 SETS), 12 alone as the last; then one SET each for CHARGE 1. */
    private static void tillThen() {
        Check.edge("(a way whose CHARGES are not all gone through yet counts as with none for the others)");
        SwornCourt x = Check.under("from 0 need 0 9 count 0 1 count 1 5 count 2 9;from 1 need 0 1 count 1 0 count 2 0;"
            + "from 2 count 0 0 count 1 1;");
        for (int p = 0; p < 12; p++) x.person(-9000, p % 8, p == 2 ? 1 : p == 11 ? 2 : 0, NONE, NONE, p == 2 ? 1 : 4);
        x.go(2);
        for (int deed = 0; deed < 3; deed++) x.charge(0, 0, 1, deed);
        // each of 70 SETS takes 2, who alone counts for CHARGE 2, and 8 go with it for CHARGE 1: 9 LOOKS each
        x.bound(630);
        finding(x, 7, 2, 6, 630, 1);
        // 11 alone is the next one: with none for the others it is one CHARGE, less than two
        x.bound(631);
        finding(x, 7, 2, 6, 631, 1);
        // and 3 for CHARGE 1, with none for CHARGE 2: two with two CALLS
        x.bound(632);
        finding(x, 7, 2, 2, 632, 1);
        Check.due("11 for 0", x.called(7, 0), 1 << 11);
        Check.due("3 for 1", x.called(7, 1), 1 << 3);
        Check.due("none for 2", x.called(7, 2), 0);
        x.bound(633);
        finding(x, 7, 3, 3, 633, 1);
        Check.due("2 for 2", x.called(7, 2), 1 << 2);
    }

    private static void boundOfNow() {
        Check.edge("BOUND becomes v: what it was. OUTSIDE.");
        SwornCourt x = court("from 0 need 0 5;", 12, 1);
        charges(x, 1);
        finding(x, 1, 1, 5, 252, 0);
        x.bound(100);
        finding(x, 1, 1, 5, 100, 1);
        Check.due("refused", x.bound(99), OUTSIDE);
        finding(x, 1, 1, 5, 100, 1);
        x.bound(3000);
        finding(x, 1, 1, 5, 252, 0);
    }

    private static void nothingIsSworn() {
        Check.edge("THE FINDING for a SET of CHARGES");
        SwornCourt x = court("from 0 need 0 2;", 6, 1);
        charges(x, 2);
        finding(x, 3, 2, 4, 18, 0);
        finding(x, 3, 2, 4, 18, 0);
        finding(x, 1, 1, 2, 6, 0);
        finding(x, 2, 1, 2, 6, 0);
        Check.due("no oaths", x.count(9), 0);
        Check.due("open", x.count(5), 2);
        Check.due("2 may swear yet", x.swear(2, 1), 1);
    }

    private static void shortOfHelp() {
        Check.edge("SHORT OF HELP: LACK of a CHARGE less all that those COUNT who are not BARRED and have not sworn for it");
        SwornCourt x = court("from 0 need 0 6 count 1 2 count 2 0;", 6, 1);
        charges(x, 2);
        Check.due("four of six", x.lacks(0), 2);
        x.swear(2, 0);
        Check.due("one swore", x.lacks(0), 2);
        Check.due("who may swear for the other on another day", x.lacks(1), 2);
        x.rank(3, 1);
        Check.due("five of six", x.lacks(1), 1);
        x.rank(4, 1);
        Check.due("all six", x.lacks(1), 0);
        x.rank(5, 1);
        Check.due("0 at least", x.lacks(1), 0);
        x.rank(2, 2);
        Check.due("an oath counts as when it was sworn", x.lacks(0), 0);
        x.rank(3, 2);
        x.feud(0, 4);
        Check.due("one barred", x.lacks(1), 4);
        Check.due("one barred, one sworn", x.lacks(0), 3);
    }

    private static void allPersons() {
        Check.edge("(all PERSONS), 0 at least.");
        SwornCourt x = court("from 0 need 0 29;", 30, 1);
        charges(x, 1);
        Check.due("28 of 29", x.lacks(0), 1);
        x.die(29);
        Check.due("27 of 29", x.lacks(0), 2);
        x = court("from 0 need 0 0;", 2, 1);
        charges(x, 1);
        Check.due("0 of 0", x.lacks(0), 0);
    }

    private static void lacksRefused() {
        Check.edge("SHORT OF HELP. UNKNOWN; NOT: it is not OPEN.");
        SwornCourt x = court("from 0 need 0 1;", 4, 1);
        Check.due("none there", x.lacks(0), UNKNOWN);
        charges(x, 3);
        for (int c : new int[] {-1, 3, MIN, MAX}) Check.due("charge " + c, x.lacks(c), UNKNOWN);
        x.close(0);
        Check.due("lost", x.lacks(0), NOT);
        x.swear(2, 1);
        Check.due("met", x.lacks(1), NOT);
        x.find(1);
        Check.due("fallen", x.lacks(1), NOT);
        Check.due("open", x.lacks(2), 0);
    }
}
