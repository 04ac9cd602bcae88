/** Promises 14 to 17 and 19: each sentence of the document that names a limit or a refusal. */
public final class ChargesEdgesTest {
    private static final int NONE = Check.NONE, UNKNOWN = Check.UNKNOWN, OUTSIDE = Check.OUTSIDE;
    private static final int NOT = Check.NOT, FULL = Check.FULL;
    private static final int MIN = Integer.MIN_VALUE, MAX = Integer.MAX_VALUE;

    public static void main(String[] args) {
        twentyCharges();
        kinds();
        unlikePersons();
        deeds();
        itsLaw();
        openTillDecided();
        dead();
        bornLately();
        accusedOrAccuser();
        kin();
        halfOnes();
        feud();
        falseAnother();
        falseDays();
        falseFromTheOathOn();
        lostAgainst();
        lostDays();
        theFirstGround();
        byTheLawOfIts();
        noughtDays();
        wheneverTold();
        whatIsKnown();
        barredDays();
        hundredOaths();
        barredNow();
        swornYet();
        fewerThanWill();
        willOfToday();
        ranksLater();
        needOrMore();
        swearRefused();
        closed();
        oathNone();
        Check.end();
    }

    private static void strangers(SwornCourt x, int n) {
        for (int i = 0; i < n; i++) x.person(-9000, i % 8, 0, NONE, NONE, 4);
    }

    private static void twentyCharges() {
        Check.edge("CHARGES (20 at most)");
        SwornCourt x = new SwornCourt();
        strangers(x, 3);
        for (int c = 0; c < 20; c++) Check.due("charge", x.charge(3, 0, 1, 0), c);
        Check.due("a 21st", x.charge(3, 0, 1, 0), FULL);
        Check.due("OUTSIDE ahead of FULL", x.charge(4, 0, 1, 0), OUTSIDE);
        Check.due("UNKNOWN ahead of both", x.charge(4, 0, 3, 0), UNKNOWN);
        x.close(0);
        Check.due("one decided makes no room", x.charge(3, 0, 1, 0), FULL);
        Check.due("charges", x.count(4), 20);
        Check.due("the 20th", x.state(19, 0, 4), 3);
        Check.due("no 21st", x.state(20, 0, 4), UNKNOWN);
        Check.due("the 20th can be decided", x.close(19), 12);
        Check.due("lost ones", x.count(7), 2);
        Check.due("turned", x.turned(0, 0), 0);
        Check.due("all but two are open", x.session(31 << 10, 0), 0);
    }

    private static void kinds() {
        Check.edge("of a KIND (0 .. 3)");
        SwornCourt x = new SwornCourt();
        strangers(x, 2);
        for (int kind : new int[] {-1, 4, MIN, MAX}) Check.due("kind " + kind, x.charge(kind, 0, 1, 0), OUTSIDE);
        Check.due("kind 0", x.charge(0, 0, 1, 0), 0);
        Check.due("kind 3", x.charge(3, 0, 1, 0), 1);
        Check.due("told", x.state(1, 0, 4), 3);
    }

    private static void unlikePersons() {
        Check.edge("(also ACCUSED like ACCUSER; a DEED 0 .. NOW)");
        SwornCourt x = new SwornCourt();
        Check.due("nobody there", x.charge(0, 0, 0, 0), UNKNOWN);
        strangers(x, 2);
        for (int p : new int[] {-1, 2, MIN, MAX}) {
            Check.due("accused " + p, x.charge(0, p, 0, 0), UNKNOWN);
            Check.due("accuser " + p, x.charge(0, 0, p, 0), UNKNOWN);
            Check.due("both " + p, x.charge(9, p, p, -9), UNKNOWN);
        }
        Check.due("0 twice", x.charge(0, 0, 0, 0), OUTSIDE);
        Check.due("1 twice", x.charge(0, 1, 1, 0), OUTSIDE);
        Check.due("unlike", x.charge(0, 1, 0, 0), 0);
    }

    private static void deeds() {
        Check.edge("for a DEED on a day (not after NOW)");
        SwornCourt x = new SwornCourt();
        strangers(x, 2);
        Check.due("deed 1 on day 0", x.charge(0, 0, 1, 1), OUTSIDE);
        x.go(5);
        for (int deed : new int[] {-1, 6, MIN, MAX}) Check.due("deed " + deed, x.charge(0, 0, 1, deed), OUTSIDE);
        Check.due("deed now", x.charge(0, 0, 1, 5), 0);
        Check.due("deed on day 0", x.charge(0, 0, 1, 0), 1);
        Check.due("told", x.state(0, 5, 7), 5);
    }

    private static void itsLaw() {
        Check.edge("ITS LAW: what holds on the day of the DEED.");
        SwornCourt x = Check.under("from 3 need 0 1;from 5 need 0 2;");
        strangers(x, 2);
        x.go(6);
        int[] wanted = {12, 12, 12, 1, 1, 2, 2};
        for (int deed = 0; deed <= 6; deed++) x.charge(0, 0, 1, deed);
        for (int c = 0; c <= 6; c++) Check.due("need by the deed on " + c, x.state(c, 6, 8), wanted[c]);
    }

    private static void openTillDecided() {
        Check.edge("It is OPEN till it is decided.");
        SwornCourt x = Check.under("from 0 need 0 2 need 1 0;");
        strangers(x, 4);
        x.charge(0, 0, 1, 0);
        x.charge(1, 0, 1, 0);
        Check.due("told", x.state(0, 0, 0), 0);
        Check.due("no day", x.state(0, 0, 1), NONE);
        x.swear(2, 0);
        x.go(1000);
        Check.due("long after", x.state(0, 1000, 0), 0);
        Check.due("no day yet", x.state(0, 1000, 1), NONE);
        x.swear(3, 0);
        Check.due("decided", x.state(0, 1000, 0), 1);
        Check.due("on that day", x.state(0, 1000, 1), 1000);
        Check.due("with need 0, no oath yet", x.state(1, 1000, 0), 0);
        Check.due("which it lacks none for", x.close(1), 0);
    }

    private static void dead() {
        Check.edge("the first of 1 DEAD");
        SwornCourt x = Check.under("from 0 kin 0;");
        strangers(x, 3);
        x.charge(0, 0, 1, 0);
        x.go(1);
        for (int p = 0; p < 3; p++) x.die(p);
        x.go(1);
        int[] alive = {2, 2, 0};
        for (int p = 0; p < 3; p++) {
            Check.due("the day ahead", x.barred(p, 0, 0, 2), alive[p]);
            Check.due("from its day on", x.barred(p, 0, 1, 2), 1);
            Check.due("the day after", x.barred(p, 0, 2, 2), 1);
        }
    }

    private static void bornLately() {
        Check.edge("or born less than age days ago");
        SwornCourt x = Check.under("from 0 age 4;from 1 age 9000;from 2 age 9001;");
        strangers(x, 2);
        x.person(-2, 2, 0, NONE, NONE, 4); // 2
        x.go(2);
        x.person(2, 2, 0, NONE, NONE, 4); // 3
        for (int deed = 0; deed <= 2; deed++) x.charge(0, 0, 1, deed);
        Check.due("three days ago", x.barred(2, 0, 1, 2), 1);
        Check.due("four days ago", x.barred(2, 0, 2, 2), 0);
        Check.due("today", x.barred(3, 0, 2, 2), 1);
        Check.due("born on a later day", x.barred(3, 0, 1, 2), 1);
        Check.due("9000 days ago, age 9000", x.barred(1, 1, 0, 2), 2);
        Check.due("9000 days ago, age 9001", x.barred(1, 2, 0, 2), 1);
        Check.due("9001 days ago, age 9001", x.barred(1, 2, 1, 2), 2);
        x = Check.under("from 0 age 1;");
        strangers(x, 2);
        x.go(1);
        x.person(1, 2, 0, NONE, NONE, 4); // 2
        x.charge(0, 0, 1, 0);
        x.go(1);
        Check.due("age 1, today", x.barred(2, 0, 1, 2), 1);
        Check.due("age 1, a day ago", x.barred(2, 0, 2, 2), 0);
    }

    private static void accusedOrAccuser() {
        Check.edge("2 the ACCUSED or ACCUSER");
        SwornCourt x = Check.under("from 0 need 0 9;");
        strangers(x, 3);
        x.charge(0, 0, 1, 0);
        x.charge(0, 1, 2, 0);
        int[][] wanted = {{2, 2, 0}, {0, 2, 2}};
        for (int c = 0; c < 2; c++) {
            for (int p = 0; p < 3; p++) Check.due(p + " for " + c, x.barred(p, c, 0, 0), wanted[c][p]);
        }
        Check.due("of one as of the other", x.swear(0, 0), NOT);
        Check.due("the accuser", x.swear(1, 0), NOT);
        Check.due("in another charge", x.swear(0, 1), 1);
    }

    private static void kin() {
        Check.edge("3 KIN: a DEGREE to the ACCUSED");
        SwornCourt x = Check.under("from 0 kin 0;from 1 kin 1;from 2 kin 2;from 3 kin 8;from 4 kin 9999;");
        strangers(x, 2);
        for (int p = 2; p <= 10; p++) x.person(-9000, 2, 0, p == 2 ? 0 : p - 1, NONE, 4);
        strangers(x, 1); // 11
        x.go(4);
        int[] reach = {0, 1, 2, 8, 8};
        for (int deed = 0; deed <= 4; deed++) {
            x.charge(0, 0, 1, deed);
            for (int p = 2; p <= 10; p++) {
                Check.due("degree " + (p - 1) + " by " + deed, x.barred(p, deed, 4, 4), p - 1 <= reach[deed] ? 3 : 0);
            }
            Check.due("a stranger by " + deed, x.barred(11, deed, 4, 4), 0);
        }
    }

    private static void halfOnes() {
        Check.edge("(with half 1: one more for HALF ones) of at most kin");
        SwornCourt x = Check.under("from 0 kin 2;from 1 half 1;from 2 kin 3;from 3 kin 9;");
        strangers(x, 2);
        x.person(-9000, 2, 0, 0, 1, 4); // 2
        x.person(-9000, 2, 0, 0, 1, 4); // 3
        x.person(-9000, 2, 0, 0, NONE, 4); // 4
        strangers(x, 1); // 5
        x.go(3);
        int[] halves = {3, 0, 3, 3};
        for (int deed = 0; deed <= 3; deed++) {
            x.charge(0, 2, 5, deed);
            Check.due("of both parents by " + deed, x.barred(3, deed, 3, 3), 3);
            Check.due("of one parent by " + deed, x.barred(4, deed, 3, 3), halves[deed]);
            Check.due("the parent by " + deed, x.barred(0, deed, 3, 3), 3);
        }
        // one more for a DEGREE of 8 is 9, which kin 9 reaches and kin 8 does not
        x = Check.under("from 0 kin 8 half 1;from 1 kin 9;");
        strangers(x, 3);
        // two rows of four from 0 down: 3, 5, 7, 9 and 4, 6, 8, 10
        for (int p = 3; p <= 10; p++) x.person(-9000, 2, 0, p <= 4 ? 0 : p - 2, NONE, 4);
        x.go(1);
        x.charge(0, 9, 1, 0);
        x.charge(0, 9, 1, 1);
        Check.due("eight steps", x.kin(9, 10, 0), 8);
        Check.due("half", x.kin(9, 10, 2), 1);
        Check.due("kin 8", x.barred(10, 0, 1, 1), 0);
        Check.due("kin 9", x.barred(10, 1, 1, 1), 3);
    }

    private static void feud() {
        Check.edge("4 with feud 1: a FEUD of the HOUSE with that of the ACCUSED holds");
        SwornCourt x = Check.under("from 0 feud 1;from 1 feud 0;");
        strangers(x, 8);
        x.person(-9000, 7, 0, NONE, NONE, 4); // 8
        x.go(1);
        x.feud(0, 7);
        x.feud(1, 6);
        x.charge(0, 0, 1, 0);
        x.charge(0, 0, 1, 1);
        Check.due("house 7", x.barred(7, 0, 1, 1), 4);
        Check.due("another of it", x.barred(8, 0, 1, 1), 4);
        Check.due("with that of the accuser", x.barred(6, 0, 1, 1), 0);
        Check.due("feud 0", x.barred(7, 1, 1, 1), 0);
        Check.due("the day ahead", x.barred(7, 0, 0, 1), 0);
        x.charge(0, 7, 1, 0);
        Check.due("one of the same house", x.barred(8, 2, 1, 1), 0);
    }

    /** CHARGE 0 is MET by 2 on day 3 and FOUND true on day 7; CHARGE 1 is against 4, OPEN. */
    private static SwornCourt found(String law) {
        SwornCourt x = Check.under(law);
        strangers(x, 6);
        x.go(3);
        x.charge(0, 0, 1, 0);
        x.charge(1, 4, 1, 0);
        x.swear(2, 0);
        x.go(4);
        x.find(0);
        x.go(3);
        return x;
    }

    private static void falseAnother() {
        Check.edge("5 FALSE: the PERSON swore for another CHARGE that was FOUND true");
        SwornCourt x = found("from 0 need 0 1 need 1 9 false 9999;");
        Check.due("another one", x.barred(2, 1, 10, 10), 5);
        Check.due("its own", x.barred(2, 0, 10, 10), 0);
        Check.due("one who swore for none", x.barred(3, 1, 10, 10), 0);
        x.charge(0, 4, 1, 0);
        x.swear(3, 2);
        Check.due("one who swore for one that was not found", x.barred(3, 1, 10, 10), 0);
    }

    private static void falseDays() {
        Check.edge("less than false days ago (0 days, too");
        SwornCourt x = found("from 0 need 0 1 need 1 9 false 3;");
        int[] wanted = {0, 0, 0, 5, 5, 5, 0, 0, 0, 0, 0};
        for (int day = 0; day <= 10; day++) Check.due("day " + day, x.barred(2, 1, day, 10), wanted[day]);
        x = found("from 0 need 0 1 need 1 9 false 1;");
        Check.due("one day: 0 days ago", x.barred(2, 1, 3, 10), 5);
        Check.due("one day: 1 day ago", x.barred(2, 1, 4, 10), 0);
        x = found("from 0 need 0 1 need 1 9 false 7;");
        Check.due("the last day", x.barred(2, 1, 9, 10), 5);
        Check.due("no longer", x.swear(2, 1), 1);
    }

    private static void falseFromTheOathOn() {
        Check.edge("from that oath on, also ahead of the finding");
        SwornCourt x = found("from 0 need 0 1 need 1 9 false 99;");
        Check.due("on the day ahead of the oath", x.barred(2, 1, 2, 10), 0);
        Check.due("on its day", x.barred(2, 1, 3, 10), 5);
        Check.due("ahead of the finding", x.barred(2, 1, 6, 10), 5);
        Check.due("known by the finding", x.barred(2, 1, 3, 7), 5);
        Check.due("known by the day ahead of it", x.barred(2, 1, 3, 6), 0);
    }

    private static void lostAgainst() {
        Check.edge("6 LOST: a CHARGE against the PERSON was decided against it");
        SwornCourt x = Check.under("from 0 need 0 9 need 1 1 lost 99;");
        strangers(x, 6);
        x.charge(0, 0, 1, 0);
        x.charge(1, 2, 1, 0);
        x.charge(0, 3, 1, 0);
        x.charge(0, 4, 1, 0);
        x.close(0);
        x.swear(5, 1);
        Check.due("lost", x.barred(0, 3, 0, 0), 6);
        Check.due("met", x.barred(2, 3, 0, 0), 0);
        Check.due("open", x.barred(3, 3, 0, 0), 0);
        Check.due("the accuser", x.barred(1, 2, 0, 0), 2);
        x.find(1);
        Check.due("fallen", x.barred(2, 3, 0, 0), 6);
        Check.due("the helper of a fallen one, false 0", x.barred(5, 3, 0, 0), 0);
    }

    private static void lostDays() {
        Check.edge("was decided against it less than lost days ago (0 days, too)");
        SwornCourt x = Check.under("from 0 lost 3;from 1 lost 1;");
        strangers(x, 4);
        x.go(4);
        x.charge(0, 0, 1, 0);
        x.charge(0, 3, 1, 0);
        x.charge(0, 3, 1, 1);
        x.close(0);
        x.go(4);
        int[] three = {0, 0, 0, 0, 6, 6, 6, 0, 0}, one = {0, 0, 0, 0, 6, 0, 0, 0, 0};
        for (int day = 0; day <= 8; day++) {
            Check.due("lost 3 on " + day, x.barred(0, 1, day, 8), three[day]);
            Check.due("lost 1 on " + day, x.barred(0, 2, day, 8), one[day]);
        }
        Check.due("known by that day", x.barred(0, 1, 4, 4), 6);
    }

    private static void theFirstGround() {
        Check.edge("as KNOWN: the first of 1 DEAD");
        SwornCourt x = Check.under("from 0 need 0 1 need 1 9 kin 2 age 5 false 99 lost 99;");
        strangers(x, 2);
        x.person(-9000, 1, 0, 0, NONE, 4); // 2
        strangers(x, 1); // 3
        x.charge(0, 3, 1, 0);
        x.charge(1, 2, 3, 0);
        x.charge(1, 0, 3, 0);
        x.swear(2, 0);
        x.find(0);
        Check.due("5", x.barred(2, 0, 0, 0), 0);
        x.close(1);
        Check.due("6 alone", x.barred(2, 0, 0, 0), 6);
        x.charge(0, 3, 1, 0);
        Check.due("5 ahead of 6", x.barred(2, 3, 0, 0), 5);
        x.feud(1, 0);
        Check.due("4 ahead of 5", x.barred(2, 3, 0, 0), 4);
        Check.due("3 ahead of 4", x.barred(2, 2, 0, 0), 3);
        Check.due("2 ahead of 3", x.barred(2, 1, 0, 0), 2);
        x.die(2);
        Check.due("1 ahead of 2", x.barred(2, 1, 0, 0), 1);
    }

    private static void byTheLawOfIts() {
        Check.edge("All by the LAW of the CHARGE it would help in");
        SwornCourt x = Check.under("from 0 need 0 1 need 1 9 false 9 lost 9;from 1 false 0 lost 0;from 2 false 9 lost 9;");
        strangers(x, 6);
        x.go(2);
        x.charge(0, 0, 1, 1);
        x.swear(2, 0);
        x.find(0);
        int[] helper = {5, 0, 5}, accused = {6, 0, 6};
        for (int deed = 0; deed <= 2; deed++) {
            x.charge(1, 4, 1, deed);
            Check.due("false by " + deed, x.barred(2, deed + 1, 2, 2), helper[deed]);
            Check.due("lost by " + deed, x.barred(0, deed + 1, 2, 2), accused[deed]);
        }
    }

    private static void noughtDays() {
        Check.edge("0 days: never");
        SwornCourt x = found("from 0 need 0 1 need 1 9 false 0 lost 0 age 0;");
        x.person(10, 2, 0, NONE, NONE, 4); // 6
        x.close(1);
        x.charge(1, 5, 1, 0);
        for (int day = 0; day <= 10; day++) {
            Check.due("false on " + day, x.barred(2, 2, day, 10), 0);
            Check.due("fallen on " + day, x.barred(0, 2, day, 10), 0);
            Check.due("lost on " + day, x.barred(4, 2, day, 10), 0);
        }
        Check.due("born today", x.barred(6, 2, 10, 10), 0);
        Check.due("born tomorrow", x.barred(6, 2, 9, 10), 0);
    }

    private static void wheneverTold() {
        Check.edge("DEATHS and FEUDS as they are, whenever they were told");
        SwornCourt x = Check.under("from 0 kin 0;");
        strangers(x, 4);
        x.charge(0, 0, 1, 0);
        x.go(2);
        x.die(2);
        x.feud(0, 3);
        x.go(1);
        for (int known = 0; known <= 3; known++) {
            Check.due("dead as known by " + known, x.barred(2, 0, 2, known), 1);
            Check.due("lived as known by " + known, x.barred(2, 0, 1, known), 0);
            Check.due("feud as known by " + known, x.barred(3, 0, 2, known), 4);
            Check.due("none as known by " + known, x.barred(3, 0, 1, known), 0);
        }
    }

    private static void whatIsKnown() {
        Check.edge("of oaths, decisions, findings what is KNOWN");
        SwornCourt x = found("from 0 need 0 1 need 1 9 false 99 lost 99;");
        x.close(1);
        x.charge(1, 5, 1, 0);
        for (int known = 0; known <= 10; known++) {
            Check.due("false as known by " + known, x.barred(2, 2, 10, known), known < 7 ? 0 : 5);
            Check.due("fallen as known by " + known, x.barred(0, 2, 10, known), known < 7 ? 0 : 6);
            Check.due("closed as known by " + known, x.barred(4, 2, 10, known), known < 10 ? 0 : 6);
        }
    }

    private static void barredDays() {
        Check.edge("on a day (0 .. NOW) as KNOWN by a day (0 .. NOW): 0 not, 1 to 6. UNKNOWN, OUTSIDE.");
        SwornCourt x = new SwornCourt();
        strangers(x, 3);
        x.go(2);
        Check.due("no charge", x.barred(2, 0, 0, 0), UNKNOWN);
        x.charge(0, 0, 1, 0);
        for (int day : new int[] {-1, 3, MIN, MAX}) {
            Check.due("day " + day, x.barred(2, 0, day, 0), OUTSIDE);
            Check.due("known " + day, x.barred(2, 0, 0, day), OUTSIDE);
        }
        for (int n : new int[] {-1, 3, MIN, MAX}) {
            Check.due("person " + n, x.barred(n, 0, 9, 9), UNKNOWN);
            Check.due("charge " + n, x.barred(0, n, 9, 9), UNKNOWN);
        }
        Check.due("days ahead of its telling", x.barred(2, 0, 0, 0), 0);
        Check.due("today", x.barred(2, 0, 2, 2), 0);
    }

    private static void hundredOaths() {
        Check.edge("OATHS (100 at most)");
        SwornCourt x = Check.under("from 0 need 0 99;");
        strangers(x, 27);
        for (int c = 0; c < 5; c++) x.charge(0, 0, 1, 0);
        for (int o = 0; o < 100; o++) Check.due("oath", x.swear(2 + o % 25, o / 25), o % 25 + 1);
        x.go(1);
        Check.due("a 101st", x.swear(2, 4), FULL);
        Check.due("NOT ahead of FULL, sworn for it", x.swear(2, 3), NOT);
        Check.due("NOT ahead of FULL, barred", x.swear(0, 4), NOT);
        Check.due("UNKNOWN ahead of both", x.swear(0, 5), UNKNOWN);
        Check.due("oaths", x.count(9), 100);
        Check.due("the 100th", x.oath(99, 0), 26);
        Check.due("no 101st", x.oath(100, 0), NONE);
        Check.due("close", x.close(4), 99);
        Check.due("NOT ahead of FULL, decided", x.swear(2, 4), NOT);
    }

    private static void barredNow() {
        Check.edge("if it is not BARRED as KNOWN now");
        SwornCourt x = Check.under("from 0 need 0 1 need 1 9 kin 1 age 5 false 3 lost 3;");
        strangers(x, 7);
        x.person(0, 2, 0, NONE, NONE, 4); // 7
        x.person(-9000, 4, 0, 4, NONE, 4); // 8
        x.feud(4, 5);
        x.charge(0, 0, 1, 0);
        x.charge(1, 4, 1, 0);
        x.swear(2, 0);
        Check.due("not found yet", x.barred(2, 1, 0, 0), 0);
        x.find(0);
        x.die(6);
        Check.due("1 dead", x.swear(6, 1), NOT);
        Check.due("1 too young", x.swear(7, 1), NOT);
        Check.due("2 accused", x.swear(4, 1), NOT);
        Check.due("2 accuser", x.swear(1, 1), NOT);
        Check.due("3 kin", x.swear(8, 1), NOT);
        Check.due("4 feud", x.swear(5, 1), NOT);
        Check.due("5 false", x.swear(2, 1), NOT);
        Check.due("6 lost", x.swear(0, 1), NOT);
        Check.due("no oath", x.state(1, 0, 2), 0);
        x.go(3);
        x.peace(4, 5);
        Check.due("4 peace", x.swear(5, 1), 1);
        Check.due("5 three days on", x.swear(2, 1), 2);
        Check.due("6 three days on", x.swear(0, 1), 3);
        x.go(2);
        Check.due("1 old enough", x.swear(7, 1), 4);
    }

    private static void swornYet() {
        Check.edge("has not sworn for it yet");
        SwornCourt x = Check.under("from 0 need 0 9 need 1 1 false 9;");
        strangers(x, 4);
        x.charge(0, 0, 1, 0);
        x.charge(1, 3, 1, 0);
        Check.due("first", x.swear(2, 0), 1);
        Check.due("again", x.swear(2, 0), NOT);
        x.go(1);
        Check.due("another day", x.swear(2, 0), NOT);
        x.swear(2, 1);
        x.find(1);
        x.go(10);
        Check.due("an oath is one, long after", x.swear(2, 0), NOT);
        Check.due("another one's", x.swear(3, 0), 2);
    }

    private static void fewerThanWill() {
        Check.edge("has sworn fewer than WILL oaths today");
        SwornCourt x = Check.under("from 0 need 0 9;");
        strangers(x, 2);
        for (int will = 1; will <= 4; will++) x.person(-9000, 2, 0, NONE, NONE, will);
        for (int c = 0; c < 5; c++) x.charge(0, 0, 1, 0);
        for (int will = 1; will <= 4; will++) {
            for (int c = 0; c < 5; c++) {
                Check.due("will " + will + ", oath " + c, x.swear(will + 1, c) == NOT ? 1 : 0, c < will ? 0 : 1);
            }
        }
        Check.due("oaths", x.count(9), 10);
    }

    private static void willOfToday() {
        Check.edge("has sworn fewer than WILL oaths today");
        SwornCourt x = Check.under("from 0 need 0 9 need 1 1;");
        strangers(x, 2);
        x.person(-9000, 2, 0, NONE, NONE, 1);
        for (int c = 0; c < 4; c++) x.charge(c == 3 ? 1 : 0, 0, 1, 0);
        for (int c = 0; c < 3; c++) {
            Check.due("one a day", x.swear(2, c), 1);
            Check.due("not two", x.swear(2, (c + 1) % 3), NOT);
            x.go(1);
        }
        Check.due("one that is met", x.swear(2, 3), 1);
        x.find(3);
        x.charge(0, 0, 1, 3);
        Check.due("an oath that is found false is one of today's", x.swear(2, 4), NOT);
        x.go(1);
        Check.due("the day after", x.swear(2, 4), 1);
    }

    private static void ranksLater() {
        Check.edge("(RANKS told later that day change nothing)");
        SwornCourt x = Check.under("from 0 need 0 9 count 0 2 count 1 5;");
        strangers(x, 4);
        x.charge(0, 0, 1, 0);
        Check.due("as rank 0", x.swear(2, 0), 2);
        x.rank(2, 1);
        x.rank(3, 1);
        Check.due("as before", x.oath(0, 3), 2);
        Check.due("in all", x.state(0, 0, 2), 2);
        Check.due("as rank 1", x.swear(3, 0), 7);
        x.rank(3, 0);
        x.go(1);
        Check.due("told later", x.oath(1, 3), 5);
        Check.due("in all, later", x.state(0, 1, 2), 7);
    }

    private static void needOrMore() {
        Check.edge("With need or more in all the CHARGE is MET: decided for the ACCUSED, on that day.");
        SwornCourt x = Check.under("from 0 need 0 4 need 1 99 need 2 0 count 0 1 count 1 3 count 2 99 count 3 0;");
        strangers(x, 6);
        for (int p = 2; p <= 4; p++) x.rank(p, p - 1);
        for (int c = 0; c < 4; c++) x.charge(c == 3 ? 0 : c, 0, 1, 0);
        x.go(2);
        Check.due("3 of 4", x.swear(2, 0), 3);
        Check.due("open", x.state(0, 2, 0), 0);
        Check.due("one that counts nothing", x.swear(4, 0), 3);
        Check.due("open still", x.state(0, 2, 0), 0);
        Check.due("4 of 4", x.swear(5, 0), 4);
        Check.due("met", x.state(0, 2, 0), 1);
        Check.due("that day", x.state(0, 2, 1), 2);
        Check.due("99 of 99", x.swear(3, 1), 99);
        Check.due("met", x.state(1, 2, 0), 1);
        Check.due("need 0, with one that counts nothing", x.swear(4, 2), 0);
        Check.due("met", x.state(2, 2, 0), 1);
        Check.due("more than need", x.swear(3, 3), 99);
        Check.due("met", x.state(3, 2, 0), 1);
        Check.due("no more oaths", x.swear(2, 3), NOT);
    }

    private static void swearRefused() {
        Check.edge("An oath at NOW: what COUNTS in all for the CHARGE then. UNKNOWN; NOT; FULL.");
        SwornCourt x = new SwornCourt();
        Check.due("nobody", x.swear(0, 0), UNKNOWN);
        strangers(x, 3);
        Check.due("no charge", x.swear(2, 0), UNKNOWN);
        x.charge(0, 0, 1, 0);
        for (int n : new int[] {-1, 3, MIN, MAX}) {
            Check.due("person " + n, x.swear(n, 0), UNKNOWN);
            Check.due("charge " + n, x.swear(0, n), UNKNOWN);
        }
        Check.due("swears", x.swear(2, 0), 1);
    }

    private static void closed() {
        Check.edge("A CHARGE is CLOSED: its LACK. UNKNOWN; NOT: it is not OPEN.");
        SwornCourt x = Check.under("from 0 need 0 2 need 1 1;");
        strangers(x, 4);
        for (int c = 0; c < 3; c++) x.charge(c / 2, 0, 1, 0);
        for (int c : new int[] {-1, 3, MIN, MAX}) Check.due("charge " + c, x.close(c), UNKNOWN);
        Check.due("lack 2", x.close(0), 2);
        Check.due("lost", x.close(0), NOT);
        x.swear(2, 1);
        Check.due("lack 1", x.close(1), 1);
        x.swear(3, 2);
        Check.due("met", x.close(2), NOT);
        x.find(2);
        Check.due("fallen", x.close(2), NOT);
        Check.due("lost ones", x.count(7), 2);
    }

    private static void oathNone() {
        Check.edge("3 what it COUNTS as KNOWN now; NONE: there is none such. OUTSIDE.");
        SwornCourt x = new SwornCourt();
        Check.due("none at all", x.oath(0, 0), NONE);
        strangers(x, 3);
        x.go(7);
        for (int c = 0; c < 4; c++) x.charge(0, 0, 1, 0);
        x.swear(2, 3);
        for (int i : new int[] {-1, 1, 99, 100, MIN, MAX}) {
            for (int what = 0; what <= 3; what++) Check.due("oath " + i, x.oath(i, what), NONE);
        }
        for (int what : new int[] {-1, 4, MIN, MAX}) Check.due("what " + what, x.oath(0, what), OUTSIDE);
        int[] wanted = {2, 3, 7, 1};
        for (int what = 0; what <= 3; what++) Check.due("oath 0, " + what, x.oath(0, what), wanted[what]);
    }
}
