/** Promises 14 to 21. */
public final class ChargesTest {
    private static final int NONE = Check.NONE, UNKNOWN = Check.UNKNOWN, OUTSIDE = Check.OUTSIDE;
    private static final int NOT = Check.NOT, FULL = Check.FULL;

    public static void main(String[] args) {
        charge();
        barredRefused();
        barredByAgeAndKin();
        barredOnTheFirstDay();
        barredByFalse();
        barredByLost();
        swear();
        swearRefused();
        swearFull();
        close();
        find();
        oath();
        state();
        lawOfTheDeed();
        whatFallsInARow();
        fallenIsLostForTheAccused();
        sameDay();
        deathsAndFeudsLaterThatDay();
        turned();
        Check.end();
    }

    private static void charge() {
        SwornCourt x = new SwornCourt();
        Check.people(x, 2);
        x.go(5);
        Check.due("accused unknown", x.charge(9, 2, 0, 9), UNKNOWN);
        Check.due("accuser unknown", x.charge(0, 0, 2, 0), UNKNOWN);
        Check.due("accuser none", x.charge(0, 0, NONE, 0), UNKNOWN);
        Check.due("kind 4", x.charge(4, 0, 1, 0), OUTSIDE);
        Check.due("kind -1", x.charge(-1, 0, 1, 0), OUTSIDE);
        Check.due("one and the same", x.charge(0, 1, 1, 0), OUTSIDE);
        Check.due("deed tomorrow", x.charge(0, 0, 1, 6), OUTSIDE);
        Check.due("deed -1", x.charge(0, 0, 1, -1), OUTSIDE);
        Check.due("charge", x.charge(3, 0, 1, 5), 0);
        for (int c = 1; c < 20; c++) Check.due("more", x.charge(c % 4, 1, 0, c % 6), c);
        Check.due("a 21st", x.charge(0, 0, 1, 0), FULL);
        Check.due("a 21st outside", x.charge(0, 0, 0, 0), OUTSIDE);
        Check.due("charges", x.count(4), 20);
        Check.due("open", x.count(5), 20);
    }

    private static void barredRefused() {
        SwornCourt x = new SwornCourt();
        Check.people(x, 3);
        x.charge(0, 0, 1, 0);
        x.go(2);
        Check.due("person unknown", x.barred(3, 0, 9, 9), UNKNOWN);
        Check.due("charge unknown", x.barred(0, 1, 0, 0), UNKNOWN);
        Check.due("charge none", x.barred(0, NONE, 0, 0), UNKNOWN);
        Check.due("day tomorrow", x.barred(0, 0, 3, 2), OUTSIDE);
        Check.due("day -1", x.barred(0, 0, -1, 2), OUTSIDE);
        Check.due("known tomorrow", x.barred(0, 0, 2, 3), OUTSIDE);
        Check.due("known -1", x.barred(0, 0, 2, -1), OUTSIDE);
        Check.due("not", x.barred(2, 0, 2, 0), 0);
    }

    private static void barredByAgeAndKin() {
        SwornCourt x = Check.under("from 0 kin 3 half 1 age 10; from 5 kin 0 age 0 feud 0;");
        x.person(-9000, 0, 0, NONE, NONE, 4); // 0
        x.person(-9000, 1, 0, NONE, NONE, 4); // 1
        x.person(-5, 0, 0, 0, NONE, 4); // 2
        x.person(-9000, 0, 0, 0, 1, 4); // 3
        x.person(-9000, 0, 0, 2, NONE, 4); // 4
        x.person(-9000, 0, 0, 3, NONE, 4); // 5
        x.person(-9000, 2, 0, NONE, NONE, 4); // 6
        x.go(5);
        x.person(5, 3, 0, NONE, NONE, 4); // 7
        x.charge(0, 2, 1, 0);
        x.charge(0, 2, 1, 5);
        Check.due("accused too young, first", x.barred(2, 0, 4, 5), 1);
        Check.due("accused old enough", x.barred(2, 0, 5, 5), 2);
        Check.due("accuser", x.barred(1, 0, 5, 5), 2);
        Check.due("parent", x.barred(0, 0, 5, 5), 3);
        Check.due("half sibling, 3", x.barred(3, 0, 5, 5), 3);
        Check.due("of a half sibling, 4", x.barred(5, 0, 5, 5), 0);
        Check.due("child", x.barred(4, 0, 5, 5), 3);
        Check.due("stranger", x.barred(6, 0, 5, 5), 0);
        Check.due("kin 0", x.barred(0, 1, 5, 5), 0);
        Check.due("age 0", x.barred(7, 1, 5, 5), 0);
        Check.due("age 0, not born yet", x.barred(7, 1, 4, 5), 0);
        Check.due("newborn", x.barred(7, 0, 5, 5), 1);
        x.feud(0, 2);
        Check.due("feud", x.barred(6, 0, 5, 5), 4);
        Check.due("feud 0", x.barred(6, 1, 5, 5), 0);
        x.die(0);
        Check.due("dead ahead of kin", x.barred(0, 0, 5, 5), 1);
        Check.due("lived the day ahead", x.barred(0, 0, 4, 5), 3);
        Check.due("dead, whenever told", x.barred(0, 1, 5, 0), 1);
        Check.due("dead ahead of accused", x.barred(1, 1, 5, 5), 2);
        x.die(1);
        Check.due("dead accuser", x.barred(1, 1, 5, 5), 1);
    }

    private static void barredOnTheFirstDay() {
        SwornCourt x = Check.under("from 0 age 1;");
        Check.people(x, 2);
        x.go(1);
        x.person(1, 5, 0, NONE, NONE, 4);
        x.charge(0, 0, 1, 0);
        Check.due("born today", x.barred(2, 0, 1, 1), 1);
        Check.due("born tomorrow", x.barred(2, 0, 0, 1), 1);
        x.go(1);
        Check.due("born a day ago", x.barred(2, 0, 2, 2), 0);
    }

    private static void barredByFalse() {
        SwornCourt x = Check.under("from 0 need 0 1 need 1 9 false 3; from 1 need 1 9 false 0; from 2 false 5 lost 5;");
        Check.people(x, 6);
        x.go(10);
        x.charge(0, 0, 1, 0);
        x.charge(1, 2, 1, 0);
        x.charge(1, 2, 1, 1);
        Check.due("met", x.swear(3, 0), 1);
        x.go(5);
        Check.due("found", x.find(0), 1);
        Check.due("ahead of the oath", x.barred(3, 1, 9, 15), 0);
        Check.due("on its day", x.barred(3, 1, 10, 15), 5);
        Check.due("two days on", x.barred(3, 1, 12, 15), 5);
        Check.due("three days on", x.barred(3, 1, 13, 15), 0);
        Check.due("not known", x.barred(3, 1, 10, 14), 0);
        Check.due("0 days: never", x.barred(3, 2, 10, 15), 0);
        Check.due("not from its own", x.barred(3, 0, 10, 15), 0);
        Check.due("not another one", x.barred(4, 1, 10, 15), 0);
        x.charge(0, 2, 1, 15);
        Check.due("by the law it would help in", x.barred(3, 3, 14, 15), 5);
        Check.due("five days on", x.barred(3, 3, 15, 15), 0);
        Check.due("fallen is lost for the accused", x.barred(0, 3, 14, 15), 6);
        Check.due("no longer", x.barred(0, 3, 15, 15), 0);
        Check.due("not as known then", x.barred(0, 3, 14, 14), 0);
        Check.due("no day of loss ahead", x.barred(0, 3, 9, 15), 0);
    }

    private static void barredByLost() {
        SwornCourt x = Check.under("from 0 need 0 5 lost 4;");
        Check.people(x, 4);
        x.charge(0, 0, 1, 0);
        x.charge(0, 2, 1, 0);
        x.go(6);
        Check.due("closed", x.close(0), 5);
        x.go(9);
        Check.due("the day ahead", x.barred(0, 1, 5, 15), 0);
        Check.due("that day", x.barred(0, 1, 6, 15), 6);
        Check.due("three on", x.barred(0, 1, 9, 15), 6);
        Check.due("four on", x.barred(0, 1, 10, 15), 0);
        Check.due("not known", x.barred(0, 1, 6, 5), 0);
        Check.due("known that day", x.barred(0, 1, 6, 6), 6);
        Check.due("accused ahead of lost", x.barred(0, 0, 6, 15), 2);
        Check.due("not the accuser", x.barred(3, 1, 6, 15), 0);
    }

    private static void swear() {
        SwornCourt x = Check.under("from 0 need 0 6 count 1 2 count 2 0 count 3 5;");
        Check.people(x, 7);
        x.rank(3, 1);
        x.rank(4, 2);
        x.rank(5, 3);
        x.charge(0, 0, 1, 0);
        Check.due("rank 0", x.swear(2, 0), 1);
        Check.due("rank 1", x.swear(3, 0), 3);
        x.rank(3, 3);
        Check.due("told later that day", x.state(0, 0, 2), 3);
        Check.due("counts nothing", x.swear(4, 0), 3);
        Check.due("more than need", x.swear(5, 0), 8);
        Check.due("met", x.state(0, 0, 0), 1);
        Check.due("no more", x.swear(6, 0), NOT);
        Check.due("what it counts", x.oath(1, 3), 2);
    }

    private static void swearRefused() {
        SwornCourt x = Check.under("from 0 need 0 9;");
        Check.people(x, 4);
        x.person(-10, 4, 0, NONE, NONE, 1);
        x.charge(0, 0, 1, 0);
        x.charge(0, 1, 0, 0);
        Check.due("person unknown", x.swear(5, 0), UNKNOWN);
        Check.due("charge unknown", x.swear(2, 2), UNKNOWN);
        Check.due("accused", x.swear(0, 0), NOT);
        Check.due("accuser", x.swear(1, 0), NOT);
        Check.due("swears", x.swear(4, 0), 1);
        Check.due("twice", x.swear(4, 0), NOT);
        Check.due("above will", x.swear(4, 1), NOT);
        x.go(1);
        Check.due("the next day", x.swear(4, 1), 1);
        Check.due("twice, days on", x.swear(4, 0), NOT);
        x.close(1);
        Check.due("closed", x.swear(2, 1), NOT);
        x.die(3);
        Check.due("dead", x.swear(3, 0), NOT);
        Check.due("oaths", x.count(9), 2);
        Check.due("nothing changed", x.state(0, 1, 2), 1);
    }

    private static void swearFull() {
        SwornCourt x = Check.under("from 0 need 0 99;");
        Check.people(x, 30);
        for (int c = 0; c < 5; c++) x.charge(0, 0, 1, 0);
        int told = 0;
        for (int c = 0; c < 4; c++) {
            for (int p = 2; p < 30 && told < 100; p++) {
                int answer = x.swear(p, c);
                if (answer > 0) told++;
            }
            x.go(1);
        }
        // helpers of the HOUSE of the accused are no kin, so 28 swear a day
        Check.due("oaths", x.count(9), 100);
        Check.due("one too many", x.swear(29, 4), FULL);
        Check.due("not ahead of full", x.swear(0, 4), NOT);
        Check.due("unknown ahead of full", x.swear(0, 5), UNKNOWN);
        Check.due("the 100th", x.oath(99, 1), 3);
        Check.due("no 101st", x.oath(100, 1), NONE);
    }

    private static void close() {
        SwornCourt x = Check.under("from 0 need 0 5; from 1 need 0 1;");
        Check.people(x, 4);
        x.charge(0, 0, 1, 0);
        x.swear(2, 0);
        x.swear(3, 0);
        x.go(3);
        Check.due("unknown", x.close(1), UNKNOWN);
        Check.due("unknown below", x.close(-1), UNKNOWN);
        Check.due("its lack", x.close(0), 3);
        Check.due("not open", x.close(0), NOT);
        Check.due("lost", x.state(0, 3, 0), 2);
        Check.due("that day", x.state(0, 3, 1), 3);
        Check.due("open the day ahead", x.state(0, 2, 0), 0);
        x.charge(0, 0, 1, 2);
        x.swear(2, 1);
        Check.due("met already", x.close(1), NOT);
    }

    private static void find() {
        SwornCourt x = Check.under("from 0 need 0 2;");
        Check.people(x, 5);
        x.charge(0, 0, 1, 0);
        x.charge(0, 0, 1, 0);
        Check.due("unknown", x.find(2), UNKNOWN);
        Check.due("open", x.find(0), NOT);
        x.swear(2, 0);
        x.swear(3, 0);
        x.go(4);
        Check.due("oaths", x.find(0), 2);
        Check.due("already", x.find(0), NOT);
        Check.due("fallen on the day it was met", x.state(0, 4, 1), 0);
        Check.due("fallen", x.state(0, 4, 0), 3);
        Check.due("met as known then", x.state(0, 3, 0), 1);
        x.close(1);
        Check.due("lost", x.find(1), NOT);
    }

    private static void oath() {
        SwornCourt x = Check.under("from 0 need 0 2 count 1 3 false 9;");
        Check.people(x, 5);
        x.charge(0, 0, 1, 0);
        x.charge(0, 4, 1, 0);
        x.swear(2, 0);
        x.go(3);
        x.rank(3, 1);
        x.swear(3, 0);
        x.swear(2, 1);
        Check.due("who", x.oath(1, 0), 3);
        Check.due("for", x.oath(2, 1), 1);
        Check.due("day", x.oath(1, 2), 3);
        Check.due("counts", x.oath(1, 3), 3);
        Check.due("counts 1", x.oath(2, 3), 1);
        Check.due("none such", x.oath(3, 0), NONE);
        Check.due("none below", x.oath(-1, 3), NONE);
        Check.due("what 4", x.oath(0, 4), OUTSIDE);
        Check.due("what -1 of none", x.oath(9, -1), OUTSIDE);
        x.find(0);
        Check.due("counts nothing as known now", x.oath(2, 3), 0);
        Check.due("its own counts", x.oath(0, 3), 1);
        Check.due("still told", x.oath(2, 0), 2);
    }

    private static void state() {
        SwornCourt x = Check.under("from 0 need 2 4; from 3 need 2 7;");
        Check.people(x, 5);
        x.go(5);
        x.charge(2, 3, 1, 2);
        x.go(1);
        x.swear(2, 0);
        x.go(1);
        int[] wanted = {0, NONE, 1, 3, 2, 3, 1, 2, 4};
        for (int what = 0; what <= 8; what++) Check.due("state " + what, x.state(0, 7, what), wanted[what]);
        Check.due("counts known by 5", x.state(0, 5, 2), 0);
        Check.due("counts known by 6", x.state(0, 6, 2), 1);
        Check.due("lack known by 5", x.state(0, 5, 3), 4);
        Check.due("unknown", x.state(1, 99, 99), UNKNOWN);
        Check.due("ahead of its telling", x.state(0, 4, 0), OUTSIDE);
        Check.due("tomorrow", x.state(0, 8, 0), OUTSIDE);
        Check.due("what 9", x.state(0, 7, 9), OUTSIDE);
        Check.due("what -1", x.state(0, 7, -1), OUTSIDE);
    }

    private static void lawOfTheDeed() {
        SwornCourt x = Check.under("from 2 need 0 1 count 0 3; from 4 need 0 2 count 0 1;");
        Check.people(x, 4);
        x.go(6);
        x.charge(0, 0, 1, 1);
        x.charge(0, 0, 1, 3);
        x.charge(0, 0, 1, 4);
        Check.due("as at first", x.state(0, 6, 8), 12);
        Check.due("first part", x.state(1, 6, 8), 1);
        Check.due("second part", x.state(2, 6, 8), 2);
        Check.due("counts 1", x.swear(2, 0), 1);
        Check.due("counts 3", x.swear(2, 1), 3);
        Check.due("counts 1 again", x.swear(2, 2), 1);
    }

    /** 2 swore falsely, so the oath of 2 for 3 falls, so 3 lost, so the oath of 3 for 4 falls. */
    private static void whatFallsInARow() {
        SwornCourt x = Check.under("from 0 need 0 1 need 1 2 false 20 lost 20 fine 0 10 fine 1 30 short 3 oath 7;");
        Check.people(x, 7);
        x.charge(0, 0, 1, 0);
        x.charge(0, 3, 1, 0);
        x.charge(1, 4, 1, 0);
        Check.due("met", x.swear(2, 0), 1);
        x.go(1);
        Check.due("met too", x.swear(2, 1), 1);
        x.go(1);
        Check.due("one of two", x.swear(3, 2), 1);
        Check.due("two of two", x.swear(5, 2), 2);
        x.go(1);
        Check.due("three are met", x.count(6), 3);
        Check.due("found", x.find(0), 1);
        Check.due("fallen", x.state(0, 3, 0), 3);
        Check.due("lost though it was met", x.state(1, 3, 0), 2);
        Check.due("on the day on which it was met", x.state(1, 3, 1), 1);
        Check.due("it lacks one", x.state(1, 3, 3), 1);
        Check.due("lost in turn", x.state(2, 3, 0), 2);
        Check.due("on its day", x.state(2, 3, 1), 2);
        Check.due("what still counts", x.state(2, 3, 2), 1);
        Check.due("oath of 3", x.oath(2, 3), 0);
        Check.due("oath of 5", x.oath(3, 3), 1);
        Check.due("no longer met", x.find(2), NOT);
        Check.due("all three", x.turned(2, 3), 3);
        Check.due("fine of 3", x.owes(3, 3, 0), 13);
        Check.due("fine of 4", x.owes(4, 3, 0), 33);
        Check.due("oath in a fallen charge", x.owes(2, 3, 0), 7);
        Check.due("known by 2", x.owes(4, 2, 0), 0);
        Check.due("met known by 2", x.state(2, 2, 0), 1);
        Check.due("no open ones", x.count(5), 0);
        Check.due("lost", x.count(7), 2);
        Check.due("fallen ones", x.count(8), 1);
    }

    private static void fallenIsLostForTheAccused() {
        SwornCourt x = Check.under("from 0 need 0 1 need 1 3 lost 5;");
        Check.people(x, 5);
        x.charge(0, 2, 1, 0);
        x.charge(1, 0, 1, 0);
        Check.due("ahead of the decision", x.swear(2, 1), 1);
        Check.due("met", x.swear(3, 0), 1);
        x.charge(1, 0, 1, 0);
        Check.due("behind the decision", x.swear(2, 2), 1);
        x.go(1);
        x.find(0);
        Check.due("what came ahead counts", x.state(1, 1, 2), 1);
        Check.due("what came behind does not", x.state(2, 1, 2), 0);
        Check.due("barred on that day", x.barred(2, 1, 0, 1), 6);
        Check.due("as known then it counts", x.state(2, 0, 2), 1);
    }

    private static void sameDay() {
        SwornCourt x = Check.under("from 0 need 0 1 need 1 3 false 5;");
        Check.people(x, 6);
        x.charge(1, 0, 1, 0);
        x.charge(0, 0, 1, 0);
        x.charge(1, 0, 1, 0);
        x.swear(2, 0);
        x.swear(2, 1);
        x.swear(2, 2);
        x.find(1);
        Check.due("ahead of the false oath", x.oath(0, 3), 1);
        Check.due("behind it", x.oath(2, 3), 0);
        Check.due("barred all that day", x.barred(2, 0, 0, 0), 5);
        Check.due("cannot swear on", x.swear(2, 0), NOT);
    }

    /** BARRED on a day: DEATHS and FEUDS as they are, whenever they were told. */
    private static void deathsAndFeudsLaterThatDay() {
        SwornCourt x = Check.under("from 0 need 0 2;");
        Check.people(x, 6);
        x.charge(0, 0, 1, 0);
        x.swear(2, 0);
        x.feud(0, 2);
        Check.due("a feud begins that day", x.state(0, 0, 2), 0);
        x.peace(0, 2);
        Check.due("and does not hold on it", x.state(0, 0, 2), 1);
        x.swear(3, 0);
        Check.due("met", x.state(0, 0, 0), 1);
        x.die(3);
        Check.due("lost, as it was met", x.state(0, 0, 0), 2);
        Check.due("the oath counts nothing", x.oath(1, 3), 0);
        x.go(1);
        x.die(2);
        x.feud(0, 4);
        Check.due("a day later nothing falls", x.state(0, 1, 2), 1);
    }

    private static void turned() {
        SwornCourt x = Check.under("from 0 need 0 1;");
        Check.people(x, 4);
        x.charge(0, 0, 1, 0);
        x.charge(0, 0, 1, 0);
        x.go(1);
        x.swear(2, 0);
        x.close(1);
        x.charge(0, 0, 1, 0);
        x.go(1);
        x.close(2);
        x.find(0);
        Check.due("two", x.turned(0, 1), 2);
        Check.due("two the other way", x.turned(1, 0), 2);
        Check.due("told by both", x.turned(0, 2), 2);
        Check.due("met and open turned", x.turned(1, 2), 2);
        Check.due("one day", x.turned(2, 2), 0);
        Check.due("below", x.turned(-1, 0), OUTSIDE);
        Check.due("above", x.turned(0, 3), OUTSIDE);
    }
}
