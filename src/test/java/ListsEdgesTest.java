/** Promises 28 to 32: each sentence of the document that names a limit or a refusal. */
public final class ListsEdgesTest {
    private static final int NONE = Check.NONE, UNKNOWN = Check.UNKNOWN, OUTSIDE = Check.OUTSIDE;
    private static final int MIN = Integer.MIN_VALUE, MAX = Integer.MAX_VALUE;

    public static void main(String[] args) {
        stoodFor();
        owedTo();
        stoodRefused();
        ringOfNone();
        ringOfTwo();
        ringOfMany();
        ringOfAll();
        fewestInARow();
        firstByNumbers();
        ringPlaces();
        leftDays();
        leftWithoutAccuser();
        leftDeed();
        leftAsKnownNow();
        leftRefused();
        bornByThatDay();
        belowNeed();
        forsakenBits();
        forsakenRefused();
        counts();
        countRefused();
        owedAboveNought();
        Check.end();
    }

    private static SwornCourt court(String law, int persons) {
        SwornCourt x = Check.under(law);
        for (int i = 0; i < persons; i++) x.person(-9000, i % 8, 0, NONE, NONE, 4);
        return x;
    }

    /** An oath of a for a CHARGE against b; the last PERSON is the ACCUSER. */
    private static void stand(SwornCourt x, int a, int b) {
        int c = x.charge(0, b, x.count(1) - 1, x.count(0));
        Check.due("oath of " + a + " for " + b, x.swear(a, c) > 0 ? 1 : 0, 1);
    }

    private static void row(SwornCourt x, int... wanted) {
        int p = wanted[0];
        Check.due("ring of " + p, x.ring(p, NONE), wanted.length);
        for (int k = 0; k < wanted.length; k++) Check.due("ring of " + p + " at " + k, x.ring(p, k), wanted[k]);
        Check.due("ring of " + p + " beyond", x.ring(p, wanted.length), NONE);
    }

    private static void stoodFor() {
        Check.edge("STOOD of a for b: how many oaths a swore for CHARGES against b.");
        SwornCourt x = court("from 0 need 0 1 need 1 9 false 9;", 5);
        Check.due("none", x.stood(2, 0, 0), 0);
        x.charge(0, 0, 1, 0);
        x.charge(1, 0, 1, 0);
        x.charge(1, 0, 2, 0);
        x.swear(2, 0);
        x.swear(2, 1);
        x.close(1);
        Check.due("a met one and a lost one", x.stood(2, 0, 0), 2);
        x.find(0);
        Check.due("a fallen one and an oath that counts nothing", x.stood(2, 0, 0), 2);
        Check.due("not of another", x.stood(3, 0, 0), 0);
        Check.due("not for the accuser", x.stood(2, 1, 0), 0);
        Check.due("refused", x.swear(2, 2), SwornCourt.NOT);
        Check.due("a refused oath is none", x.stood(2, 0, 0), 2);
    }

    private static void owedTo() {
        Check.edge("OWED to a by b: that less STOOD of b for a.");
        SwornCourt x = court("from 0 need 0 9;", 5);
        stand(x, 0, 1);
        stand(x, 0, 1);
        stand(x, 1, 0);
        Check.due("two less one", x.stood(0, 1, 1), 1);
        Check.due("one less two", x.stood(1, 0, 1), -1);
        Check.due("nothing", x.stood(2, 3, 1), 0);
        Check.due("to itself", x.stood(0, 0, 1), 0);
        Check.due("stood for itself", x.stood(0, 0, 0), 0);
    }

    private static void stoodRefused() {
        Check.edge("STOOD of a for b (what = 0), OWED to a by b (1). UNKNOWN, OUTSIDE.");
        SwornCourt x = court("from 0;", 2);
        for (int p : new int[] {-1, 2, MIN, MAX}) {
            Check.due("a " + p, x.stood(p, 0, 2), UNKNOWN);
            Check.due("b " + p, x.stood(0, p, 2), UNKNOWN);
        }
        for (int what : new int[] {-1, 2, MIN, MAX}) Check.due("what " + what, x.stood(0, 1, what), OUTSIDE);
    }

    private static void ringOfNone() {
        Check.edge("k = NONE how many (0: there is none), else the k-th of it; NONE: there is none such. UNKNOWN.");
        SwornCourt x = court("from 0 need 0 9;", 5);
        for (int p : new int[] {-2, -1, 5, MIN, MAX}) {
            for (int k = -1; k <= 1; k++) Check.due("person " + p, x.ring(p, k), UNKNOWN);
        }
        stand(x, 0, 1);
        stand(x, 1, 2);
        for (int p = 0; p < 5; p++) {
            Check.due("ring of " + p, x.ring(p, NONE), 0);
            for (int k : new int[] {0, 1, 2, 30, -2, MIN, MAX}) Check.due("ring of " + p + " at " + k, x.ring(p, k), NONE);
        }
    }

    private static void ringOfTwo() {
        Check.edge("the last one for it (at least two)");
        SwornCourt x = court("from 0 need 0 9;", 5);
        stand(x, 0, 1);
        Check.due("one stood", x.ring(0, NONE), 0);
        stand(x, 1, 0);
        row(x, 0, 1);
        row(x, 1, 0);
    }

    private static void ringOfMany() {
        Check.edge("beginning with it, each of whom STOOD for the next one");
        SwornCourt x = court("from 0 need 0 9;", 6);
        stand(x, 2, 0);
        stand(x, 0, 3);
        stand(x, 3, 1);
        Check.due("not the other way", x.ring(2, NONE), 0);
        stand(x, 1, 2);
        row(x, 2, 0, 3, 1);
        row(x, 0, 3, 1, 2);
        row(x, 3, 1, 2, 0);
        row(x, 1, 2, 0, 3);
        Check.due("one who is not on it", x.ring(4, NONE), 0);
        stand(x, 4, 2);
        Check.due("one who leads to it", x.ring(4, NONE), 0);
        stand(x, 2, 4);
        row(x, 2, 4);
    }

    /** 20 CHARGES are 20 PERSONS in a row at most. */
    private static void ringOfAll() {
        Check.edge("the fewest PERSONS in a row, beginning with it");
        SwornCourt x = court("from 0 need 0 9;", 30);
        for (int i = 0; i < 20; i++) stand(x, 9 + i, 9 + (i + 7) % 20);
        int[] wanted = new int[20];
        for (int i = 0; i < 20; i++) wanted[i] = 9 + i * 7 % 20;
        row(x, wanted);
        Check.due("of 28", x.ring(28, 19), 21);
        Check.due("29 is on none", x.ring(29, NONE), 0);
    }

    private static void fewestInARow() {
        Check.edge("the fewest PERSONS in a row");
        SwornCourt x = court("from 0 need 0 9;", 8);
        stand(x, 0, 1);
        stand(x, 1, 2);
        stand(x, 2, 3);
        stand(x, 3, 0);
        row(x, 0, 1, 2, 3);
        stand(x, 0, 6);
        stand(x, 6, 5);
        stand(x, 5, 0);
        row(x, 0, 6, 5);
        row(x, 1, 2, 3, 0);
        stand(x, 0, 3);
        row(x, 0, 3);
        row(x, 3, 0);
    }

    private static void firstByNumbers() {
        Check.edge("of several the row that is first by numbers");
        SwornCourt x = court("from 0 need 0 9;", 9);
        stand(x, 0, 3);
        stand(x, 3, 5);
        stand(x, 5, 0);
        row(x, 0, 3, 5);
        stand(x, 3, 4);
        stand(x, 4, 0);
        row(x, 0, 3, 4);
        stand(x, 0, 2);
        stand(x, 2, 7);
        stand(x, 7, 0);
        row(x, 0, 2, 7);
        // 1 stood for by 0 leads nowhere
        stand(x, 0, 1);
        row(x, 0, 2, 7);
    }

    private static void ringPlaces() {
        Check.edge("else the k-th of it; NONE: there is none such");
        SwornCourt x = court("from 0 need 0 9;", 4);
        stand(x, 0, 1);
        stand(x, 1, 0);
        Check.due("how many", x.ring(1, -1), 2);
        for (int k : new int[] {-2, 2, 3, 29, 30, MIN, MAX}) Check.due("at " + k, x.ring(1, k), NONE);
        Check.due("at 0", x.ring(1, 0), 1);
        Check.due("at 1", x.ring(1, 1), 0);
    }

    private static void leftDays() {
        Check.edge("LEFT for a PERSON, a KIND, a day (0 .. NOW)");
        SwornCourt x = court("from 0 kin 0 count 0 3;from 2 count 0 5;", 4);
        Check.due("day 0 is now", x.left(0, 0, 0), 9);
        x.go(3);
        x.die(3);
        x.feud(0, 2);
        x.go(1);
        x.peace(0, 2);
        int[] wanted = {9, 9, 15, 5, 10};
        for (int day = 0; day <= 4; day++) Check.due("on " + day, x.left(0, 3, day), wanted[day]);
        Check.due("of the dead", x.left(3, 0, 4), 15);
    }

    private static void leftWithoutAccuser() {
        Check.edge("from a CHARGE of that KIND against it (without an ACCUSER, for a DEED on that day)");
        SwornCourt x = court("from 0;", 1);
        Check.due("nobody but itself", x.left(0, 0, 0), 0);
        x.person(-9000, 1, 0, NONE, NONE, 1);
        Check.due("the other one", x.left(0, 0, 0), 1);
        x.charge(0, 0, 1, 0);
        Check.due("an accuser of another charge", x.left(0, 0, 0), 1);
        Check.due("the accused of another charge", x.left(1, 0, 0), 1);
    }

    private static void leftDeed() {
        Check.edge("for a DEED on that day");
        SwornCourt x = court("from 0 kin 0;from 1 kin 1;from 2 kin 2;from 3 age 9004;from 4 feud 0 age 0 kin 0;", 2);
        x.person(-9000, 2, 0, 0, NONE, 1); // 2
        x.person(-9000, 2, 0, 2, NONE, 1); // 3
        x.feud(0, 1);
        x.go(4);
        // of 1, 2, 3 for 0: 1 is of a HOUSE in FEUD, 2 and 3 are kin of 1 and 2 STEPS
        int[] wanted = {2, 1, 0, 0, 3};
        for (int day = 0; day <= 4; day++) Check.due("on " + day, x.left(0, 0, day), wanted[day]);
        Check.due("for 1 on 2", x.left(1, 0, 2), 2);
        Check.due("for 1 on 3, all too young", x.left(1, 0, 3), 0);
    }

    private static void leftAsKnownNow() {
        Check.edge("who would not be BARRED, as KNOWN now, on that day");
        SwornCourt x = court("from 0 need 0 1 false 3 lost 2;", 5);
        x.go(1);
        x.charge(0, 0, 1, 0);
        x.swear(2, 0);
        x.go(4);
        int[] ahead = {4, 4, 4, 4, 4, 4}, then = {4, 2, 2, 3, 4, 4};
        for (int day = 0; day <= 5; day++) Check.due("ahead of the finding, on " + day, x.left(4, 0, day), ahead[day]);
        x.find(0);
        for (int day = 0; day <= 5; day++) Check.due("as known now, on " + day, x.left(4, 0, day), then[day]);
        Check.due("for 0 itself", x.left(0, 0, 1), 3);
    }

    private static void leftRefused() {
        Check.edge("LEFT for a PERSON, a KIND on a day. UNKNOWN, OUTSIDE.");
        SwornCourt x = court("from 0;", 3);
        x.go(2);
        for (int p : new int[] {-1, 3, MIN, MAX}) Check.due("person " + p, x.left(p, 4, 3), UNKNOWN);
        for (int kind : new int[] {-1, 4, MIN, MAX}) Check.due("kind " + kind, x.left(0, kind, 0), OUTSIDE);
        for (int day : new int[] {-1, 3, MIN, MAX}) Check.due("day " + day, x.left(0, 0, day), OUTSIDE);
        Check.due("kind 3, now", x.left(0, 3, 2), 2);
    }

    private static void bornByThatDay() {
        Check.edge("FORSAKEN are PERSONS of a HOUSE, BORN by that day and not DEAD on it");
        SwornCourt x = court("from 0;", 0);
        x.go(3);
        x.person(2, 5, 0, NONE, NONE, 1);
        x.person(-9000, 6, 0, NONE, NONE, 1);
        x.go(2);
        x.die(0);
        x.go(1);
        int[] wanted = {0, 0, 1, 1, 1, 0, 0};
        for (int day = 0; day <= 6; day++) {
            Check.due("house 5 on " + day, x.forsaken(5, 0, day), wanted[day]);
            Check.due("house 6 on " + day, x.forsaken(6, 0, day), 2);
            Check.due("house 7 on " + day, x.forsaken(7, 0, day), 0);
        }
    }

    private static void belowNeed() {
        Check.edge("for whom that is below need");
        SwornCourt x = court("from 0 need 0 3 need 1 4 need 2 0 need 3 5;", 4);
        Check.due("3 of 3", x.forsaken(0, 0, 0), 0);
        Check.due("3 of 4", x.forsaken(0, 1, 0), 1);
        Check.due("need 0", x.forsaken(0, 2, 0), 0);
        x.person(-9000, 0, 0, NONE, NONE, 1); // 4
        Check.due("4 of 4", x.forsaken(0, 1, 0), 0);
        Check.due("4 of 5, both", x.forsaken(0, 3, 0), 1 | 1 << 4);
        for (int p = 1; p <= 3; p++) x.die(p);
        x.die(4);
        Check.due("0 of 0", x.forsaken(0, 2, 0), 0);
        Check.due("0 of 3", x.forsaken(0, 0, 0), 1);
    }

    private static void forsakenBits() {
        Check.edge("FORSAKEN of a HOUSE by a KIND on a day, as a SET of PERSONS");
        SwornCourt x = Check.under("from 0 need 0 30;");
        for (int p = 0; p < 30; p++) x.person(-9000, p % 2 * 7, 0, NONE, NONE, 1);
        Check.due("house 0", x.forsaken(0, 0, 0), 0x15555555);
        Check.due("house 7", x.forsaken(7, 0, 0), 0x2aaaaaaa);
        Check.due("house 1", x.forsaken(1, 0, 0), 0);
        Check.due("29 of 12", x.forsaken(0, 1, 0), 0);
    }

    private static void forsakenRefused() {
        Check.edge("as a SET of PERSONS. OUTSIDE.");
        SwornCourt x = court("from 0;", 3);
        x.go(2);
        for (int n : new int[] {-1, 8, MIN, MAX}) Check.due("house " + n, x.forsaken(n, 0, 0), OUTSIDE);
        for (int n : new int[] {-1, 4, MIN, MAX}) Check.due("kind " + n, x.forsaken(0, n, 0), OUTSIDE);
        for (int n : new int[] {-1, 3, MIN, MAX}) Check.due("day " + n, x.forsaken(0, 0, n), OUTSIDE);
        Check.due("the last of each", x.forsaken(7, 3, 2), 0);
    }

    private static void counts() {
        Check.edge("4 CHARGES, 5 of these OPEN, 6 MET, 7 LOST, 8 FALLEN (as KNOWN now)");
        SwornCourt x = court("from 0 need 0 1 false 9 lost 9;", 8);
        for (int c = 0; c < 5; c++) x.charge(0, c == 1 ? 3 : 0, 1, 0);
        x.swear(2, 0);
        x.swear(2, 1);
        x.swear(3, 2);
        x.close(3);
        int[] ahead = {5, 1, 3, 1, 0}, then = {5, 1, 0, 3, 1};
        for (int what = 4; what <= 8; what++) Check.due("count " + what, x.count(what), ahead[what - 4]);
        x.find(0);
        // 2 was false, so 3 lost, so what 3 swore fell
        for (int what = 4; what <= 8; what++) Check.due("count " + what, x.count(what), then[what - 4]);
        Check.due("oaths", x.count(9), 3);
    }

    private static void countRefused() {
        Check.edge("How many: 0 NOW, 1 PERSONS, 2 FEUDS that hold, 3 parts of THE LAW");
        SwornCourt x = new SwornCourt();
        for (int what : new int[] {-1, 11, MIN, MAX}) Check.due("count " + what, x.count(what), OUTSIDE);
        for (int what = 0; what <= 10; what++) Check.due("count " + what, x.count(what), 0);
        x = court("from 0;from 1;", 3);
        x.feud(0, 1);
        x.feud(0, 2);
        x.peace(0, 1);
        x.go(7);
        int[] wanted = {7, 3, 1, 2};
        for (int what = 0; what <= 3; what++) Check.due("count " + what, x.count(what), wanted[what]);
    }

    private static void owedAboveNought() {
        Check.edge("10 all that is owed (OWES above 0, of all)");
        SwornCourt x = court("from 0 need 0 1 fine 0 10;", 4);
        for (int p = 0; p < 3; p++) {
            x.charge(0, p, 3, 0);
            x.close(p);
        }
        Check.due("three", x.count(10), 30);
        x.pay(0, 10);
        Check.due("one owes 0", x.count(10), 20);
        x.pay(1, 11);
        Check.due("one owes less than 0", x.count(10), 10);
        x.pay(3, 500);
        Check.due("one who owed nothing", x.count(10), 10);
        x.pay(2, 9);
        Check.due("one coin", x.count(10), 1);
        x.die(2);
        Check.due("of the dead, too", x.count(10), 1);
    }
}
