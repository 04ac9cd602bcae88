/** Promises 1 to 9: each sentence of the document that names a limit or a refusal. */
public final class PersonsEdgesTest {
    private static final int NONE = Check.NONE, UNKNOWN = Check.UNKNOWN, OUTSIDE = Check.OUTSIDE;
    private static final int NOT = Check.NOT, FULL = Check.FULL;
    private static final int MIN = Integer.MIN_VALUE, MAX = Integer.MAX_VALUE;

    public static void main(String[] args) {
        calls512();
        constants();
        numbersFromNought();
        emptyObject();
        nowAtFirst();
        nowAtMost();
        strides();
        thirtyPersons();
        born();
        houses();
        ranks();
        sixtyChanges();
        parents();
        unlikeParents();
        will();
        dead();
        twentyFeuds();
        unlikeHouses();
        feudNow();
        daysOfFeuds();
        peace();
        noSteps();
        leastTie();
        aboveEight();
        half();
        toldDays();
        toldRank();
        toldDeath();
        kinOfNone();
        Check.end();
    }

    private static int plain(SwornCourt x) {
        return x.person(0, 0, 0, NONE, NONE, 1);
    }

    private static void calls512() {
        Check.edge("An object is used for at most 512 calls after it has been made");
        SwornCourt x = new SwornCourt();
        for (int i = 1; i <= 500; i++) Check.due("go", x.go(i % 2), (i + 1) / 2);
        Check.due("the 501st", plain(x), 0);
        for (int i = 502; i < 512; i++) Check.due("more", x.told(0, 250, 0), 0);
        Check.due("the 512th", x.count(0), 250);
    }

    private static void constants() {
        Check.edge("NONE is -1.");
        Check.due("NONE", SwornCourt.NONE, -1);
        Check.edge("NONE = -1, UNKNOWN = -100001, OUTSIDE = -100002, NOT = -100003, FULL = -100004;");
        Check.due("UNKNOWN", SwornCourt.UNKNOWN, -100001);
        Check.due("OUTSIDE", SwornCourt.OUTSIDE, -100002);
        Check.due("NOT", SwornCourt.NOT, -100003);
        Check.due("FULL", SwornCourt.FULL, -100004);
    }

    private static void numbersFromNought() {
        Check.edge("What has a number has it from 0 on, as it comes.");
        SwornCourt x = Check.under("from 0 need 0 9;");
        for (int p = 0; p < 4; p++) {
            Check.due("person", plain(x), p);
            Check.due("refused between", x.person(0, 8, 0, NONE, NONE, 1), OUTSIDE);
        }
        for (int c = 0; c < 3; c++) {
            Check.due("charge", x.charge(0, 0, 1, 0), c);
            Check.due("refused between", x.charge(0, 0, 0, 0), OUTSIDE);
        }
        Check.due("no oath 0 yet", x.oath(0, 0), NONE);
        x.swear(3, 2);
        Check.due("refused between", x.swear(0, 0), NOT);
        x.swear(2, 0);
        Check.due("oath 0", x.oath(0, 0), 3);
        Check.due("oath 1", x.oath(1, 0), 2);
    }

    private static void emptyObject() {
        Check.edge("No PERSONS, no CHARGES; no text: all rules as at first.");
        SwornCourt x = new SwornCourt();
        Check.due("person 0", x.told(0, 0, 0), UNKNOWN);
        Check.due("charge 0", x.state(0, 0, 0), UNKNOWN);
        Check.due("session of bit 0", x.session(1, 0), UNKNOWN);
        Check.due("session of none", x.session(0, 0), OUTSIDE);
        Check.due("turned of none", x.turned(0, 0), 0);
        Check.due("forsaken of none", x.forsaken(0, 0, 0), 0);
        for (int what = 0; what <= 10; what++) Check.due("count " + what, x.count(what), 0);
        Check.due("bytes", x.feed(1, 32), 1);
        Check.due("fault", x.fault(), NONE);
        Check.due("need", x.law(0, 0, 0), 12);
    }

    private static void nowAtFirst() {
        Check.edge("NOW is a day (0 at first, 9000 at most).");
        SwornCourt x = new SwornCourt();
        Check.due("now", x.count(0), 0);
        Check.due("go 0", x.go(0), 0);
        x.person(0, 0, 0, NONE, NONE, 1);
        Check.due("day 0 is there", x.told(0, 0, 0), 0);
        Check.due("day 1 is not", x.told(0, 1, 0), OUTSIDE);
    }

    private static void nowAtMost() {
        Check.edge("NOT: it would be above 9000.");
        SwornCourt x = new SwornCourt();
        for (int i = 0; i < 8; i++) x.go(1000);
        x.go(999);
        Check.due("to 9001", x.go(2), NOT);
        Check.due("to 9999", x.go(1000), NOT);
        Check.due("still 8999", x.count(0), 8999);
        Check.due("to 9000", x.go(1), 9000);
        Check.due("one more", x.go(1), NOT);
        Check.due("none more", x.go(0), 9000);
    }

    private static void strides() {
        Check.edge("NOW goes on by n (0 .. 1000): NOW.");
        SwornCourt x = new SwornCourt();
        Check.due("1000", x.go(1000), 1000);
        for (int n : new int[] {-1, 1001, MIN, MAX}) Check.due("go " + n, x.go(n), OUTSIDE);
        for (int i = 2; i <= 9; i++) x.go(1000);
        for (int n : new int[] {-1, 1001, MIN, MAX}) Check.due("OUTSIDE ahead of NOT " + n, x.go(n), OUTSIDE);
        Check.due("now", x.count(0), 9000);
    }

    private static void thirtyPersons() {
        Check.edge("PERSONS (30 at most)");
        SwornCourt x = new SwornCourt();
        for (int p = 0; p < 30; p++) Check.due("person", plain(x), p);
        Check.due("a 31st", plain(x), FULL);
        Check.due("a child of the 30th", x.person(0, 0, 0, 29, NONE, 1), FULL);
        Check.due("a child of the 31st", x.person(0, 0, 0, 30, NONE, 1), UNKNOWN);
        Check.due("persons", x.count(1), 30);
        Check.due("no 31st", x.told(30, 0, 0), UNKNOWN);
        Check.due("the 30th", x.told(29, 0, 5), 1);
    }

    private static void born() {
        Check.edge("BORN on a day (-9000 to NOW)");
        SwornCourt x = new SwornCourt();
        x.go(3);
        for (int day : new int[] {-9001, 4, MIN, MAX}) {
            Check.due("born " + day, x.person(day, 0, 0, NONE, NONE, 1), OUTSIDE);
        }
        Check.due("born -9000", x.person(-9000, 0, 0, NONE, NONE, 1), 0);
        Check.due("born now", x.person(3, 0, 0, NONE, NONE, 1), 1);
        Check.due("told", x.told(0, 0, 0), -9000);
        Check.due("told on a day ahead of it", x.told(1, 0, 0), 3);
    }

    private static void houses() {
        Check.edge("of a HOUSE (0 .. 7)");
        SwornCourt x = new SwornCourt();
        for (int house : new int[] {-1, 8, MIN, MAX}) {
            Check.due("house " + house, x.person(0, house, 0, NONE, NONE, 1), OUTSIDE);
        }
        Check.due("house 0", x.person(0, 0, 0, NONE, NONE, 1), 0);
        Check.due("house 7", x.person(0, 7, 0, NONE, NONE, 1), 1);
        Check.due("told", x.told(1, 0, 1), 7);
    }

    private static void ranks() {
        Check.edge("of a RANK (0 .. 3, from then on till another one is told for it");
        SwornCourt x = new SwornCourt();
        for (int rank : new int[] {-1, 4, MIN, MAX}) {
            Check.due("rank " + rank, x.person(0, 0, rank, NONE, NONE, 1), OUTSIDE);
        }
        x.person(0, 0, 0, NONE, NONE, 1);
        x.person(0, 0, 3, NONE, NONE, 1);
        for (int rank : new int[] {-1, 4, MIN, MAX}) Check.due("change to " + rank, x.rank(1, rank), OUTSIDE);
        Check.due("rank 3", x.told(1, 0, 2), 3);
        x.go(2);
        Check.due("it was 0", x.rank(0, 3), 0);
        Check.due("it was 3", x.rank(1, 0), 3);
        x.go(2);
        Check.due("till the day ahead", x.told(0, 1, 2), 0);
        Check.due("from that day on", x.told(0, 2, 2), 3);
        Check.due("today", x.told(0, 4, 2), 3);
    }

    private static void sixtyChanges() {
        Check.edge("60 changes in all");
        SwornCourt x = new SwornCourt();
        plain(x);
        plain(x);
        for (int i = 0; i < 60; i++) Check.due("change", x.rank(i % 2, (i / 2 + 1) % 4), i / 2 % 4);
        Check.due("a 61st of 0", x.rank(0, 1), FULL);
        Check.due("a 61st of 1", x.rank(1, 1), FULL);
        Check.due("OUTSIDE ahead of FULL", x.rank(1, 4), OUTSIDE);
        Check.due("UNKNOWN ahead of both", x.rank(2, 4), UNKNOWN);
        Check.due("as by the 59th", x.told(0, 0, 2), 30 % 4);
        Check.due("as by the 60th", x.told(1, 0, 2), 30 % 4);
    }

    private static void parents() {
        Check.edge("FATHER and MOTHER (PERSONS that were there already, or NONE");
        SwornCourt x = new SwornCourt();
        Check.due("nobody is there", x.person(0, 0, 0, 0, NONE, 1), UNKNOWN);
        Check.due("nobody is there", x.person(0, 0, 0, NONE, 0, 1), UNKNOWN);
        plain(x);
        for (int p : new int[] {1, -2, 30, MIN, MAX, UNKNOWN}) {
            Check.due("father " + p, x.person(0, 0, 0, p, NONE, 1), UNKNOWN);
            Check.due("mother " + p, x.person(0, 0, 0, NONE, p, 1), UNKNOWN);
        }
        Check.due("father 0", x.person(0, 0, 0, 0, NONE, 1), 1);
        Check.due("mother 0", x.person(0, 0, 0, NONE, 0, 1), 2);
        Check.due("both", x.person(0, 0, 0, 2, 1, 1), 3);
        Check.due("no mother", x.told(1, 0, 4), NONE);
        Check.due("no father", x.told(2, 0, 3), NONE);
    }

    private static void unlikeParents() {
        Check.edge("not one and the same");
        SwornCourt x = new SwornCourt();
        Check.due("NONE twice", x.person(0, 0, 0, NONE, NONE, 1), 0);
        Check.due("0 twice", x.person(0, 0, 0, 0, 0, 1), OUTSIDE);
        Check.due("one that there is not, twice", x.person(0, 0, 0, 1, 1, 1), UNKNOWN);
        Check.due("persons", x.count(1), 1);
    }

    private static void will() {
        Check.edge("WILL (1 .. 4)");
        SwornCourt x = new SwornCourt();
        for (int will : new int[] {0, 5, -1, MIN, MAX}) {
            Check.due("will " + will, x.person(0, 0, 0, NONE, NONE, will), OUTSIDE);
        }
        Check.due("will 1", x.person(0, 0, 0, NONE, NONE, 1), 0);
        Check.due("will 4", x.person(0, 0, 0, NONE, NONE, 4), 1);
        Check.due("told", x.told(1, 0, 5), 4);
    }

    private static void dead() {
        Check.edge("A PERSON is DEAD from NOW on: 1. UNKNOWN; NOT: it is already.");
        SwornCourt x = Check.under("from 0 kin 0;");
        for (int i = 0; i < 3; i++) plain(x);
        x.charge(0, 0, 1, 0);
        x.go(2);
        Check.due("dies", x.die(2), 1);
        Check.due("the same day", x.die(2), NOT);
        x.go(2);
        Check.due("later", x.die(2), NOT);
        for (int p : new int[] {3, -1, MIN, MAX}) Check.due("die " + p, x.die(p), UNKNOWN);
        Check.due("from the first day on", x.told(2, 4, 6), 2);
        Check.due("lives the day ahead", x.barred(2, 0, 1, 4), 0);
        Check.due("dead on its day", x.barred(2, 0, 2, 4), 1);
        Check.due("dead on", x.barred(2, 0, 4, 4), 1);
    }

    private static void twentyFeuds() {
        Check.edge("FEUDS (20 at most)");
        SwornCourt x = new SwornCourt();
        int so = 0;
        for (int a = 0; a < 8; a++) {
            for (int b = a + 1; b < 8 && so < 20; b++) Check.due("feud", x.feud(a, b), ++so);
        }
        Check.due("they hold", x.count(2), 20);
        Check.due("a 21st", x.feud(6, 7), FULL);
        Check.due("NOT ahead of FULL", x.feud(1, 0), NOT);
        Check.due("OUTSIDE ahead of both", x.feud(0, 0), OUTSIDE);
        Check.due("one laid down", x.peace(0, 1), 1);
        Check.due("makes no room", x.feud(6, 7), FULL);
        Check.due("nor for its own", x.feud(0, 1), FULL);
        Check.due("19 hold", x.count(2), 19);
        Check.due("none of two that have none", x.peace(6, 7), NOT);
        x.person(0, 6, 0, NONE, NONE, 1);
        x.person(0, 5, 0, NONE, NONE, 1);
        x.person(0, 7, 0, NONE, NONE, 1);
        x.charge(0, 0, 1, 0);
        Check.due("none between the houses 7 and 6", x.barred(2, 0, 0, 0), 0);
    }

    private static void unlikeHouses() {
        Check.edge("OUTSIDE (also one HOUSE twice); NOT: one of theirs holds; FULL.");
        SwornCourt x = new SwornCourt();
        for (int house = 0; house < 8; house++) Check.due("twice", x.feud(house, house), OUTSIDE);
        for (int house : new int[] {-1, 8, MIN, MAX}) {
            Check.due("feud with " + house, x.feud(0, house), OUTSIDE);
            Check.due("feud of " + house, x.feud(house, 7), OUTSIDE);
            Check.due("feud within " + house, x.feud(house, house), OUTSIDE);
        }
        Check.due("none", x.count(2), 0);
        Check.due("0 and 7", x.feud(0, 7), 1);
        Check.due("it holds", x.feud(0, 7), NOT);
        Check.due("turned round", x.feud(7, 0), NOT);
        x.go(9);
        Check.due("days later", x.feud(0, 7), NOT);
        Check.due("one", x.count(2), 1);
    }

    private static void feudNow() {
        Check.edge("A FEUD of two HOUSES begins: how many there were so far.");
        SwornCourt x = new SwornCourt();
        Check.due("first", x.feud(0, 1), 1);
        x.peace(0, 1);
        Check.due("those laid down are told, too", x.feud(0, 1), 2);
        Check.due("but one holds", x.count(2), 1);
    }

    private static void daysOfFeuds() {
        Check.edge("they hold on the day they begin, not any more on that at which they are laid down");
        SwornCourt x = Check.under("from 0 kin 0;");
        for (int p = 0; p < 3; p++) x.person(0, p, 0, NONE, NONE, 1);
        x.charge(0, 0, 1, 0);
        x.go(2);
        x.feud(2, 0);
        x.go(2);
        x.peace(0, 2);
        x.go(2);
        int[] wanted = {0, 0, 4, 4, 0, 0, 0};
        for (int day = 0; day <= 6; day++) Check.due("day " + day, x.barred(2, 0, day, 6), wanted[day]);
        x.feud(0, 2);
        Check.due("begun", x.barred(2, 0, 6, 6), 4);
        x.peace(0, 2);
        Check.due("laid down on its first day", x.barred(2, 0, 6, 6), 0);
        x.feud(0, 2);
        Check.due("begun on the day of the peace", x.barred(2, 0, 6, 6), 4);
    }

    private static void peace() {
        Check.edge("The FEUD of two HOUSES that holds is laid down: 1. OUTSIDE; NOT: none holds.");
        SwornCourt x = new SwornCourt();
        x.feud(1, 2);
        for (int house : new int[] {-1, 8, MIN, MAX}) {
            Check.due("peace with " + house, x.peace(1, house), OUTSIDE);
            Check.due("peace of " + house, x.peace(house, 2), OUTSIDE);
        }
        Check.due("one house twice", x.peace(1, 1), OUTSIDE);
        Check.due("never one", x.peace(1, 3), NOT);
        Check.due("holds still", x.count(2), 1);
        Check.due("peace", x.peace(2, 1), 1);
        Check.due("laid down already", x.peace(1, 2), NOT);
    }

    private static void kin(SwornCourt x, int a, int b, int degree, int tie, int half) {
        for (int turn = 0; turn < 2; turn++) {
            String of = " of " + a + ", " + b;
            Check.due("degree" + of, x.kin(turn == 0 ? a : b, turn == 0 ? b : a, 0), degree);
            Check.due("tie" + of, x.kin(turn == 0 ? a : b, turn == 0 ? b : a, 1), tie);
            Check.due("half" + of, x.kin(turn == 0 ? a : b, turn == 0 ? b : a, 2), half);
        }
    }

    private static void noSteps() {
        Check.edge("over all PERSONS to whom STEPS lead from both (0 STEPS, too)");
        SwornCourt x = new SwornCourt();
        plain(x);
        x.person(0, 0, 0, 0, NONE, 1);
        x.person(0, 0, 0, NONE, 1, 1);
        kin(x, 0, 0, 0, 0, 0);
        kin(x, 2, 2, 0, 2, 0);
        kin(x, 0, 1, 1, 0, 0);
        kin(x, 0, 2, 2, 0, 0);
        kin(x, 1, 2, 1, 1, 0);
    }

    private static void leastTie() {
        Check.edge("THE TIE: that PERSON, of several the least number.");
        SwornCourt x = new SwornCourt();
        plain(x);
        plain(x);
        x.person(0, 0, 0, 1, 0, 1); // 2
        x.person(0, 0, 0, 0, 1, 1); // 3
        kin(x, 2, 3, 2, 0, 0);
        x.person(0, 0, 0, 3, 2, 1); // 4, of a brother and a sister
        kin(x, 4, 0, 2, 0, 0);
        x.person(0, 0, 0, 3, 2, 1); // 5
        kin(x, 4, 5, 2, 2, 0);
    }

    private static void aboveEight() {
        Check.edge("No DEGREE, if there is none, or if it is above 8.");
        SwornCourt x = new SwornCourt();
        plain(x);
        for (int p = 1; p <= 9; p++) x.person(0, 0, 0, p - 1, NONE, 1);
        plain(x); // 10
        for (int p = 11; p <= 15; p++) x.person(0, 0, 0, NONE, p == 11 ? 0 : p - 1, 1);
        kin(x, 0, 10, NONE, NONE, 0);
        kin(x, 8, 0, 8, 0, 0);
        kin(x, 9, 0, NONE, NONE, 0);
        kin(x, 9, 1, 8, 1, 0);
        kin(x, 14, 4, 8, 0, 1);
        kin(x, 14, 5, NONE, NONE, 0);
        kin(x, 15, 4, NONE, NONE, 0);
        kin(x, 15, 3, 8, 0, 1);
    }

    private static void half() {
        Check.edge("HALF they are, if neither is THE TIE and just one PERSON gives that least.");
        SwornCourt x = new SwornCourt();
        plain(x);
        plain(x);
        x.person(0, 0, 0, 0, 1, 1); // 2
        x.person(0, 0, 0, 0, 1, 1); // 3
        x.person(0, 0, 0, 0, NONE, 1); // 4
        x.person(0, 0, 0, NONE, 4, 1); // 5
        kin(x, 2, 3, 2, 0, 0);
        kin(x, 2, 4, 2, 0, 1);
        kin(x, 2, 5, 3, 0, 1);
        kin(x, 4, 5, 1, 4, 0);
        kin(x, 0, 2, 1, 0, 0);
        kin(x, 0, 5, 2, 0, 0);
        // 6 has 0 as father and as mother's father: one PERSON gives the least, but it is one of the two
        x.person(0, 0, 0, 0, 2, 1); // 6
        kin(x, 6, 0, 1, 0, 0);
        kin(x, 6, 1, 2, 1, 0);
        // over 0 it is 1 + 1, over 1 it is 2 + 1
        kin(x, 6, 3, 2, 0, 1);
    }

    private static void toldDays() {
        Check.edge("Of a PERSON at a day (0 .. NOW)");
        SwornCourt x = new SwornCourt();
        x.go(3);
        x.person(2, 1, 0, NONE, NONE, 1);
        for (int day : new int[] {-1, 4, MIN, MAX}) {
            for (int what = 0; what <= 6; what++) Check.due("day " + day, x.told(0, day, what), OUTSIDE);
        }
        Check.due("day 0", x.told(0, 0, 1), 1);
        Check.due("now", x.told(0, 3, 1), 1);
        for (int what : new int[] {-1, 7, MIN, MAX}) Check.due("what " + what, x.told(0, 0, what), OUTSIDE);
        for (int p : new int[] {-1, 1, MIN, MAX}) Check.due("person " + p, x.told(p, 9, 9), UNKNOWN);
    }

    private static void toldRank() {
        Check.edge("2 RANK on that day (as first told ahead of its first change)");
        SwornCourt x = new SwornCourt();
        x.go(5);
        x.person(4, 0, 2, NONE, NONE, 1);
        Check.due("ahead of its telling", x.told(0, 0, 2), 2);
        x.rank(0, 1);
        Check.due("changed on the day of its telling", x.told(0, 5, 2), 1);
        Check.due("the day ahead", x.told(0, 4, 2), 2);
        x.rank(0, 3);
        Check.due("the last of the day", x.told(0, 5, 2), 3);
    }

    private static void toldDeath() {
        Check.edge("6 the day from which on it is DEAD (NONE; whatever the day)");
        SwornCourt x = new SwornCourt();
        plain(x);
        plain(x);
        x.die(1);
        x.go(4);
        Check.due("lives", x.told(0, 4, 6), NONE);
        x.die(0);
        Check.due("told of a day ahead", x.told(0, 0, 6), 4);
        Check.due("dead from day 0 on", x.told(1, 4, 6), 0);
    }

    private static void kinOfNone() {
        Check.edge("NONE of the first two: no DEGREE (0 of the third). UNKNOWN, OUTSIDE.");
        SwornCourt x = new SwornCourt();
        plain(x);
        plain(x);
        kin(x, 0, 1, NONE, NONE, 0);
        for (int what : new int[] {-1, 3, MIN, MAX}) Check.due("what " + what, x.kin(0, 1, what), OUTSIDE);
        for (int p : new int[] {-1, 2, MIN, MAX}) {
            Check.due("kin of " + p, x.kin(p, 0, 3), UNKNOWN);
            Check.due("kin with " + p, x.kin(0, p, 3), UNKNOWN);
        }
    }
}
