/** Promises 18 and 20 to 23: each sentence of the document that names a limit or a refusal. */
public final class AnewEdgesTest {
    private static final int NONE = Check.NONE, UNKNOWN = Check.UNKNOWN, OUTSIDE = Check.OUTSIDE;
    private static final int NOT = Check.NOT, FULL = Check.FULL;
    private static final int MIN = Integer.MIN_VALUE, MAX = Integer.MAX_VALUE;
    private static final int OPEN = 0, MET = 1, LOST = 2, FALLEN = 3;

    public static void main(String[] args) {
        foundWhereMet();
        foundRefused();
        toldUpTo();
        inTheOrder();
        barredThen();
        barredThenByDeath();
        lostOnTheDayOfMet();
        fallenForMet();
        fallenForLost();
        lostForItsAccused();
        openStaysOpen();
        metAnewEarlier();
        metAnewLater();
        closedBehindMet();
        dayOrNone();
        lackAtLeast();
        knownFromItsTelling();
        stateRefused();
        turnedDays();
        turnedToldByBoth();
        finesOfTheAccused();
        finesByLack();
        finesOfHelpers();
        coins();
        sixtyPayments();
        paidUpTo();
        owesRefused();
        largestFines();
        Check.end();
    }

    private static SwornCourt court(String law, int persons) {
        SwornCourt x = Check.under(law);
        for (int i = 0; i < persons; i++) x.person(-9000, i % 8, 0, NONE, NONE, 4);
        return x;
    }

    private static void stands(SwornCourt x, int c, int state, int day, int counts, int lack) {
        int now = x.count(0);
        Check.due("state of " + c, x.state(c, now, 0), state);
        Check.due("day of " + c, x.state(c, now, 1), day);
        Check.due("counts of " + c, x.state(c, now, 2), counts);
        Check.due("lack of " + c, x.state(c, now, 3), lack);
    }

    private static void foundWhereMet() {
        Check.edge("of a CHARGE that is MET it may be FOUND, at NOW, that it was true");
        SwornCourt x = court("from 0 need 0 2;", 5);
        for (int c = 0; c < 2; c++) x.charge(0, 0, 1, 0);
        x.swear(2, 0);
        Check.due("open", x.find(0), NOT);
        x.swear(3, 0);
        stands(x, 0, MET, 0, 2, 0);
        Check.due("met", x.find(0), 2);
        stands(x, 0, FALLEN, 0, 2, 0);
        x.close(1);
        Check.due("lost", x.find(1), NOT);
        stands(x, 1, LOST, 0, 0, 2);
    }

    private static void foundRefused() {
        Check.edge("NOT: it is not MET as KNOWN now, or was FOUND already.");
        SwornCourt x = court("from 0 need 0 1 false 9;", 5);
        Check.due("none there", x.find(0), UNKNOWN);
        for (int c = 0; c < 2; c++) x.charge(0, 0, 1, 0);
        for (int c : new int[] {-1, 2, MIN, MAX}) Check.due("charge " + c, x.find(c), UNKNOWN);
        x.swear(2, 0);
        x.go(1);
        x.swear(2, 1);
        Check.due("found", x.find(0), 1);
        Check.due("already", x.find(0), NOT);
        x.go(1);
        Check.due("already, a day later", x.find(0), NOT);
        Check.due("met when told, but lost as known now", x.find(1), NOT);
    }

    private static void toldUpTo() {
        Check.edge("KNOWN by a day d: what was told up to d");
        SwornCourt x = court("from 0 need 0 2;", 5);
        x.charge(0, 0, 1, 0);
        x.go(1);
        x.swear(2, 0);
        x.go(1);
        x.swear(3, 0);
        x.go(1);
        x.find(0);
        x.go(1);
        int[] states = {OPEN, OPEN, MET, FALLEN, FALLEN}, counts = {0, 1, 2, 2, 2}, days = {NONE, NONE, 2, 2, 2};
        for (int d = 0; d <= 4; d++) {
            Check.due("state by " + d, x.state(0, d, 0), states[d]);
            Check.due("day by " + d, x.state(0, d, 1), days[d]);
            Check.due("counts by " + d, x.state(0, d, 2), counts[d]);
        }
    }

    private static void inTheOrder() {
        Check.edge("in the order in which they were told, up to d");
        SwornCourt x = court("from 0 need 0 1 need 1 9 false 5 lost 5;", 6);
        x.charge(1, 0, 1, 0);
        x.charge(0, 3, 1, 0);
        x.charge(1, 0, 1, 0);
        x.charge(1, 4, 1, 0);
        x.swear(2, 0);
        x.swear(3, 0);
        x.swear(2, 1);
        x.swear(2, 2);
        x.swear(3, 2);
        x.find(1);
        stands(x, 0, OPEN, NONE, 2, 7);
        stands(x, 2, OPEN, NONE, 0, 9);
        x.close(3);
        stands(x, 3, LOST, 0, 0, 9);
        Check.due("a day's oaths by days alone", x.barred(2, 0, 0, 0), 5);
    }

    private static void barredThen() {
        Check.edge("an oath whose PERSON was BARRED then, by that, COUNTS nothing");
        SwornCourt x = court("from 0 need 0 1 need 1 9 false 3;", 5);
        x.charge(0, 0, 1, 0);
        x.charge(1, 0, 1, 0);
        for (int c = 2; c <= 5; c++) x.charge(1, 0, 1, 0);
        x.swear(2, 1);
        x.go(1);
        x.swear(2, 0);
        for (int c = 2; c <= 5; c++) {
            x.swear(2, c);
            x.go(1);
        }
        x.find(0);
        int[] counts = {1, 1, 0, 0, 0, 1};
        for (int c = 0; c <= 5; c++) {
            Check.due("counts of " + c, x.state(c, 5, 2), counts[c]);
            Check.due("as known the day ahead, " + c, x.state(c, 4, 2), 1);
        }
        for (int o = 0; o <= 5; o++) Check.due("oath " + o, x.oath(o, 3), o < 2 || o == 5 ? 1 : 0);
    }

    private static void barredThenByDeath() {
        Check.edge("an oath whose PERSON was BARRED then, by that, COUNTS nothing");
        SwornCourt x = court("from 0 need 0 9;", 5);
        x.charge(0, 0, 1, 0);
        for (int p = 2; p <= 4; p++) x.swear(p, 0);
        x.go(1);
        x.die(2);
        x.feud(0, 3);
        Check.due("told the day after", x.state(0, 1, 2), 3);
        x.charge(0, 0, 1, 0);
        Check.due("an oath of today", x.swear(4, 1), 1);
        x.die(4);
        Check.due("dead on the day of the oath", x.state(1, 1, 2), 0);
        Check.due("not on that of the first", x.state(0, 1, 2), 3);
    }

    private static void lostOnTheDayOfMet() {
        Check.edge("what was MET without being so ANEW is LOST on the day on which it was MET");
        SwornCourt x = court("from 0 need 0 1 need 1 3 false 9;", 7);
        x.charge(0, 0, 1, 0);
        x.charge(1, 0, 1, 0);
        x.swear(2, 0);
        x.go(1);
        x.swear(2, 1);
        x.go(1);
        x.swear(3, 1);
        x.go(1);
        x.swear(4, 1);
        stands(x, 1, MET, 3, 3, 0);
        x.go(1);
        x.find(0);
        // on the day of the third oath, though the first one is it that fell
        stands(x, 1, LOST, 3, 2, 1);
        Check.due("open the day ahead", x.state(1, 2, 0), OPEN);
        Check.due("met as known then", x.state(1, 3, 0), MET);
        Check.due("it stays lost", x.swear(5, 1), NOT);
        Check.due("it was not closed", x.close(1), NOT);
    }

    private static void fallenForMet() {
        Check.edge("a CHARGE that is FOUND true is FALLEN in place of MET or LOST, on that day");
        SwornCourt x = court("from 0 need 0 1;", 4);
        x.go(2);
        x.charge(0, 0, 1, 0);
        x.go(2);
        x.swear(2, 0);
        x.go(2);
        x.find(0);
        stands(x, 0, FALLEN, 4, 1, 0);
        Check.due("fallen ones", x.count(8), 1);
        Check.due("met ones", x.count(6), 0);
        Check.due("lost ones", x.count(7), 0);
    }

    private static void fallenForLost() {
        Check.edge("a CHARGE that is FOUND true is FALLEN in place of MET or LOST, on that day");
        SwornCourt x = court("from 0 need 0 1 false 9 oath 5 short 3 fine 0 100;", 5);
        for (int c = 0; c < 2; c++) x.charge(0, c * 3, 1, 0);
        x.swear(2, 0);
        x.go(1);
        x.swear(2, 1);
        x.go(1);
        x.find(1);
        stands(x, 1, FALLEN, 1, 1, 0);
        x.go(1);
        Check.due("met without a helper of it left", x.find(0), 1);
        stands(x, 1, FALLEN, 1, 0, 1);
        stands(x, 0, FALLEN, 0, 1, 0);
        Check.due("no lost ones", x.count(7), 0);
        Check.due("fine and one lacking", x.owes(3, 3, 0), 103);
        Check.due("both oaths", x.owes(2, 3, 0), 10);
    }

    private static void lostForItsAccused() {
        Check.edge("(and LOST for its ACCUSED");
        SwornCourt x = court("from 0 need 0 1 need 1 9 lost 4;", 5);
        x.charge(0, 0, 1, 0);
        x.charge(1, 3, 1, 0);
        x.go(2);
        x.swear(2, 0);
        Check.due("met", x.barred(0, 1, 2, 2), 0);
        x.go(6);
        x.find(0);
        int[] wanted = {0, 0, 6, 6, 6, 6, 0, 0, 0};
        for (int day = 0; day <= 8; day++) Check.due("on " + day, x.barred(0, 1, day, 8), wanted[day]);
        Check.due("by days of its decision, not of the finding", x.swear(0, 1), 1);
    }

    /** CHARGE 0 needs 2. A FEUD makes void what 2 swore for it, a peace of that day makes it count again. */
    private static SwornCourt metByPeace() {
        SwornCourt x = court("from 0 need 0 2;", 6);
        x.charge(0, 0, 1, 0);
        x.go(3);
        Check.due("first oath", x.swear(2, 0), 1);
        x.feud(0, 2);
        Check.due("second oath, the first is void", x.swear(3, 0), 1);
        stands(x, 0, OPEN, NONE, 1, 1);
        x.peace(0, 2);
        stands(x, 0, MET, 3, 2, 0);
        return x;
    }

    private static void openStaysOpen() {
        Check.edge("one that is OPEN ANEW stays OPEN");
        SwornCourt x = metByPeace();
        Check.due("no oath where it is met", x.swear(4, 0), NOT);
        Check.due("found", x.find(0), 2);
        stands(x, 0, FALLEN, 3, 2, 0);
        x.feud(0, 2);
        stands(x, 0, OPEN, NONE, 1, 1);
        Check.due("found already, nor met", x.find(0), NOT);
        Check.due("an open one", x.count(5), 1);
        Check.due("no fine", x.owes(0, 3, 0), 0);
        Check.due("an oath more", x.swear(4, 0), 2);
        stands(x, 0, FALLEN, 3, 2, 0);
    }

    private static void metAnewEarlier() {
        Check.edge("(An oath told while the CHARGE was not MET counts, though it may be MET ANEW earlier or later.)");
        SwornCourt x = metByPeace();
        x.feud(0, 2);
        stands(x, 0, OPEN, NONE, 1, 1);
        Check.due("told while it was not met", x.swear(4, 0), 2);
        x.peace(0, 2);
        stands(x, 0, MET, 3, 3, 0);
        Check.due("the oath behind", x.oath(2, 3), 1);
    }

    private static void metAnewLater() {
        Check.edge("(An oath told while the CHARGE was not MET counts, though it may be MET ANEW earlier or later.)");
        SwornCourt x = metByPeace();
        x.feud(0, 2);
        x.go(2);
        Check.due("two days on", x.swear(4, 0), 2);
        stands(x, 0, MET, 5, 2, 0);
        Check.due("open by the day ahead", x.state(0, 4, 0), OPEN);
        Check.due("open by the day of the first two", x.state(0, 3, 0), OPEN);
    }

    private static void closedBehindMet() {
        Check.edge("ANEW is all worked through as it came (oaths, closings");
        SwornCourt x = court("from 0 need 0 2;", 6);
        x.charge(0, 0, 1, 0);
        x.swear(2, 0);
        x.feud(0, 2);
        x.swear(3, 0);
        Check.due("closed, as it lacks one", x.close(0), 1);
        stands(x, 0, LOST, 0, 1, 1);
        x.peace(0, 2);
        // it was not OPEN ANEW where it was closed
        stands(x, 0, MET, 0, 2, 0);
        x.feud(0, 2);
        stands(x, 0, LOST, 0, 1, 1);
    }

    private static void dayOrNone() {
        Check.edge("a day (on which it was decided; NONE)");
        SwornCourt x = court("from 0 need 0 1;", 4);
        for (int c = 0; c < 3; c++) x.charge(0, 0, 1, 0);
        x.swear(2, 0);
        x.close(1);
        Check.due("day 0 is not NONE", x.state(0, 0, 1), 0);
        Check.due("nor where it is lost", x.state(1, 0, 1), 0);
        Check.due("open", x.state(2, 0, 1), NONE);
        x.go(5);
        Check.due("open, days on", x.state(2, 5, 1), NONE);
        Check.due("as it was", x.state(0, 5, 1), 0);
    }

    private static void lackAtLeast() {
        Check.edge("LACK: need less what COUNTS, 0 at least.");
        SwornCourt x = court("from 0 need 0 3 count 1 9 need 1 0;", 4);
        for (int c = 0; c < 2; c++) x.charge(c, 0, 1, 0);
        Check.due("none yet", x.state(0, 0, 3), 3);
        x.swear(2, 0);
        Check.due("one", x.state(0, 0, 3), 2);
        x.rank(3, 1);
        Check.due("ten of three", x.swear(3, 0), 10);
        Check.due("none lacks", x.state(0, 0, 3), 0);
        Check.due("need 0", x.state(1, 0, 3), 0);
        x.swear(3, 1);
        Check.due("9 of 0", x.state(1, 0, 3), 0);
    }

    private static void knownFromItsTelling() {
        Check.edge("Of a CHARGE KNOWN by a day (from that on which it was told to NOW)");
        SwornCourt x = court("from 0 need 0 3;", 4);
        x.go(4);
        x.charge(0, 0, 1, 1);
        x.go(2);
        x.charge(0, 0, 1, 6);
        for (int what = 0; what <= 8; what++) {
            for (int day : new int[] {3, 7, 0, 1, -1, MIN, MAX}) Check.due("by " + day, x.state(0, day, what), OUTSIDE);
            Check.due("by the day ahead", x.state(1, 5, what), OUTSIDE);
        }
        int[] first = {OPEN, NONE, 0, 3, 0, 0, 1, 1, 3};
        for (int what = 0; what <= 8; what++) {
            Check.due("by its day", x.state(0, 4, what), first[what]);
            Check.due("by now", x.state(0, 6, what), first[what]);
            Check.due("on its day, which is now", x.state(1, 6, what), what == 7 ? 6 : first[what]);
        }
    }

    private static void stateRefused() {
        Check.edge("4 KIND, 5 ACCUSED, 6 ACCUSER, 7 DEED, 8 need. UNKNOWN, OUTSIDE.");
        SwornCourt x = court("from 0;", 3);
        Check.due("none there", x.state(0, 0, 0), UNKNOWN);
        x.charge(3, 2, 1, 0);
        for (int c : new int[] {-1, 1, MIN, MAX}) Check.due("charge " + c, x.state(c, 9, 9), UNKNOWN);
        for (int what : new int[] {-1, 9, MIN, MAX}) Check.due("what " + what, x.state(0, 0, what), OUTSIDE);
        int[] wanted = {3, 2, 1, 0, 12};
        for (int what = 4; what <= 8; what++) Check.due("what " + what, x.state(0, 0, what), wanted[what - 4]);
    }

    private static void turnedDays() {
        Check.edge("(a, b 0 .. NOW; of those told by both). OUTSIDE.");
        SwornCourt x = court("from 0;", 2);
        x.go(2);
        for (int day : new int[] {-1, 3, MIN, MAX}) {
            Check.due("a " + day, x.turned(day, 0), OUTSIDE);
            Check.due("b " + day, x.turned(0, day), OUTSIDE);
            Check.due("both " + day, x.turned(day, day), OUTSIDE);
        }
        Check.due("no charges", x.turned(0, 2), 0);
    }

    private static void turnedToldByBoth() {
        Check.edge("How many CHARGES have another STATE KNOWN by day b than by day a");
        SwornCourt x = court("from 0 need 0 1 need 1 2 false 9;", 6);
        x.charge(0, 0, 1, 0);
        x.charge(1, 0, 1, 0);
        x.charge(1, 0, 1, 0);
        x.swear(2, 0);
        x.go(1);
        x.swear(2, 1);
        x.swear(3, 1);
        x.charge(1, 0, 1, 0);
        x.close(3);
        x.go(1);
        x.find(0);
        x.go(1);
        x.close(2);
        // 0: MET on 0, FALLEN by 2; 1: MET on 1, LOST by 2; 2: closed on 3; 3: told and closed on 1
        int[][] wanted = {{0, 1, 2, 3}, {1, 0, 2, 3}, {2, 2, 0, 1}, {3, 3, 1, 0}};
        for (int a = 0; a <= 3; a++) {
            for (int b = 0; b <= 3; b++) Check.due("by " + a + " and " + b, x.turned(a, b), wanted[a][b]);
        }
    }

    private static void finesOfTheAccused() {
        Check.edge("of an ACCUSED for each CHARGE that is LOST or FALLEN: fine of its KIND, and short times LACK");
        SwornCourt x = court("from 0 need 0 1 need 1 1 need 2 1 need 3 1 fine 0 1 fine 1 10 fine 2 100 fine 3 1000;", 6);
        for (int kind = 0; kind <= 3; kind++) x.charge(kind, 0, 1, 0);
        Check.due("open ones", x.owes(0, 0, 0), 0);
        x.swear(2, 0);
        x.swear(3, 1);
        Check.due("met ones", x.owes(0, 0, 0), 0);
        x.find(0);
        Check.due("fallen", x.owes(0, 0, 0), 1);
        x.close(2);
        Check.due("lost", x.owes(0, 0, 0), 101);
        x.close(3);
        Check.due("both of them", x.owes(0, 0, 0), 1101);
        Check.due("the accuser", x.owes(1, 0, 0), 0);
        Check.due("the helpers, oath 0", x.owes(2, 0, 0), 0);
    }

    private static void finesByLack() {
        Check.edge("short times LACK");
        SwornCourt x = court("from 0 need 0 5 fine 0 0 short 9999;from 1 short 0;", 5);
        x.go(1);
        for (int c = 0; c < 3; c++) x.charge(0, 0, 1, c / 2);
        for (int p = 2; p <= 4; p++) x.swear(p, 1);
        x.close(0);
        Check.due("all five", x.owes(0, 1, 0), 49995);
        x.close(1);
        Check.due("two of five", x.owes(0, 1, 0), 49995 + 19998);
        x.close(2);
        Check.due("short 0", x.owes(0, 1, 0), 49995 + 19998);
    }

    private static void finesOfHelpers() {
        Check.edge("of each PERSON oath times each oath of its in a FALLEN CHARGE");
        SwornCourt x = court("from 0 need 0 2 fine 0 5 oath 7;from 1 oath 9;", 6);
        x.go(1);
        for (int c = 0; c < 3; c++) x.charge(0, 0, 1, c / 2);
        for (int c = 0; c < 3; c++) {
            x.swear(2, c);
            x.swear(3 + c % 2, c);
        }
        Check.due("none fallen", x.owes(2, 1, 0), 0);
        for (int c = 0; c < 3; c++) x.find(c);
        Check.due("all three", x.owes(2, 1, 0), 7 + 7 + 9);
        Check.due("0 and 2", x.owes(3, 1, 0), 7 + 9);
        Check.due("1", x.owes(4, 1, 0), 7);
        Check.due("of none", x.owes(5, 1, 0), 0);
        Check.due("the accused", x.owes(0, 1, 0), 15);
        Check.due("known by the day ahead", x.owes(2, 0, 0), 0);
    }

    private static void coins() {
        Check.edge("A PERSON pays (1 .. 9999) at NOW: what it OWES then.");
        SwornCourt x = court("from 0 need 0 2 fine 0 9999 short 1;", 3);
        Check.due("nobody", x.pay(3, 1), UNKNOWN);
        for (int p : new int[] {-1, MIN, MAX}) Check.due("person " + p, x.pay(p, 0), UNKNOWN);
        for (int coins : new int[] {0, -1, 10000, MIN, MAX}) Check.due("coins " + coins, x.pay(0, coins), OUTSIDE);
        x.charge(0, 0, 1, 0);
        x.close(0);
        Check.due("owes", x.owes(0, 0, 2), 10001);
        Check.due("one", x.pay(0, 1), 10000);
        Check.due("9999", x.pay(0, 9999), 1);
        Check.due("all", x.pay(0, 1), 0);
        Check.due("more than all", x.pay(0, 5), -5);
        Check.due("owes", x.owes(0, 0, 2), -5);
        Check.due("nothing is owed", x.count(10), 0);
    }

    private static void sixtyPayments() {
        Check.edge("FULL: 60 payments were made.");
        SwornCourt x = court("from 0;", 2);
        for (int i = 1; i <= 60; i++) {
            Check.due("payment", x.pay(i % 2, 9999), -9999 * ((i + i % 2) / 2));
            Check.due("refused ones do not count", x.pay(0, 0), OUTSIDE);
        }
        Check.due("a 61st of 0", x.pay(0, 1), FULL);
        Check.due("a 61st of 1", x.pay(1, 9999), FULL);
        Check.due("OUTSIDE ahead of FULL", x.pay(1, 10000), OUTSIDE);
        Check.due("UNKNOWN ahead of both", x.pay(2, 10000), UNKNOWN);
        Check.due("paid", x.owes(0, 0, 1), 299970);
        Check.due("owes", x.owes(1, 0, 2), -299970);
    }

    private static void paidUpTo() {
        Check.edge("OWES: FINES less what was PAID up to d.");
        SwornCourt x = court("from 0 need 0 1 fine 0 50;", 3);
        x.charge(0, 0, 1, 0);
        x.go(1);
        x.pay(0, 20);
        x.go(1);
        x.close(0);
        x.go(1);
        x.pay(0, 5);
        x.pay(0, 6);
        x.go(1);
        int[] paid = {0, 20, 20, 31, 31}, fines = {0, 0, 50, 50, 50};
        for (int d = 0; d <= 4; d++) {
            Check.due("fines by " + d, x.owes(0, d, 0), fines[d]);
            Check.due("paid by " + d, x.owes(0, d, 1), paid[d]);
            Check.due("owes by " + d, x.owes(0, d, 2), fines[d] - paid[d]);
        }
        Check.due("another one's", x.owes(1, 4, 1), 0);
        Check.due("all that is owed", x.count(10), 19);
    }

    private static void owesRefused() {
        Check.edge("Of a PERSON KNOWN by a day (0 .. NOW): what = 0 FINES, 1 PAID, 2 OWES. UNKNOWN, OUTSIDE.");
        SwornCourt x = court("from 0;", 2);
        x.go(3);
        for (int p : new int[] {-1, 2, MIN, MAX}) Check.due("person " + p, x.owes(p, 9, 9), UNKNOWN);
        for (int day : new int[] {-1, 4, MIN, MAX}) Check.due("by " + day, x.owes(0, day, 0), OUTSIDE);
        for (int what : new int[] {-1, 3, MIN, MAX}) Check.due("what " + what, x.owes(0, 0, what), OUTSIDE);
        for (int what = 0; what <= 2; what++) {
            Check.due("by 0", x.owes(0, 0, what), 0);
            Check.due("by now", x.owes(0, 3, what), 0);
        }
    }

    /** The largest sum that can come: no wrap-around, nor a limit of its own. */
    private static void largestFines() {
        Check.edge("10 all that is owed (OWES above 0, of all). OUTSIDE.");
        SwornCourt x = court("from 0 need 0 99 need 1 1 count 3 99 fine 0 9999 fine 1 9999 short 9999 oath 9999;", 27);
        for (int c = 0; c < 20; c++) x.charge(c < 16 ? 0 : 1, 0, 1, 0);
        for (int c = 0; c < 16; c++) x.close(c);
        Check.due("sixteen closed", x.owes(0, 0, 0), 16 * 100 * 9999);
        for (int p = 2; p <= 5; p++) x.swear(p, 14 + p);
        for (int c = 16; c < 20; c++) x.find(c);
        Check.due("four fallen", x.owes(0, 0, 0), (16 * 100 + 4) * 9999);
        Check.due("all", x.count(10), (16 * 100 + 8) * 9999);
        x.pay(0, 9999);
        x.pay(1, 9999);
        Check.due("all less what was paid, but not by one who owes nothing", x.count(10), (16 * 100 + 7) * 9999);
    }
}
