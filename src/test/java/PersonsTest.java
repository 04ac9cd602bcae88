/** Promises 1 to 9. */
public final class PersonsTest {
    private static final int NONE = Check.NONE, UNKNOWN = Check.UNKNOWN, OUTSIDE = Check.OUTSIDE;
    private static final int NOT = Check.NOT, FULL = Check.FULL;

    public static void main(String[] args) {
        newObject();
        person();
        personRefused();
        rank();
        die();
        feudAndPeace();
        go();
        told();
        kin();
        kinFar();
        Check.end();
    }

    private static void newObject() {
        SwornCourt x = new SwornCourt();
        for (int what = 0; what <= 10; what++) Check.due("new count(" + what + ")", x.count(what), 0);
        int[] rules = {12, 1, 2, 0, 1, 0, 0, 0, 10, 0, 0};
        for (int rule = 0; rule <= 10; rule++) Check.due("new law " + rule, x.law(rule, 0, 0), rules[rule]);
        for (int k = 1; k <= 3; k++) {
            Check.due("new need " + k, x.law(0, k, 0), 12);
            Check.due("new count " + k, x.law(1, k, 0), 1);
            Check.due("new fine " + k, x.law(8, k, 0), 10);
        }
        Check.due("new fault", x.fault(), NONE);
        Check.due("new bound", x.bound(100), 1000);
        Check.due("new read", x.read(), -11);
        Check.due("new person told", x.told(0, 0, 0), UNKNOWN);
        Check.due("new charge state", x.state(0, 0, 0), UNKNOWN);
        Check.due("new oath", x.oath(0, 0), NONE);
        Check.due("new feed", x.feed(1, 32), 1);
    }

    private static void person() {
        SwornCourt x = new SwornCourt();
        Check.due("first", x.person(-9000, 0, 0, NONE, NONE, 1), 0);
        Check.due("second", x.person(0, 7, 3, NONE, NONE, 4), 1);
        Check.due("child", x.person(0, 3, 1, 1, 0, 2), 2);
        Check.due("of one parent", x.person(0, 3, 1, NONE, 2, 2), 3);
        Check.due("persons", x.count(1), 4);
        Check.due("father", x.told(2, 0, 3), 1);
        Check.due("mother", x.told(2, 0, 4), 0);
        for (int p = 4; p < 30; p++) Check.due("more", x.person(0, 0, 0, NONE, NONE, 1), p);
        Check.due("a 31st", x.person(0, 0, 0, NONE, NONE, 1), FULL);
        Check.due("a 31st outside", x.person(0, 8, 0, NONE, NONE, 1), OUTSIDE);
        Check.due("a 31st unknown", x.person(0, 8, 0, 30, NONE, 1), UNKNOWN);
        Check.due("still 30", x.count(1), 30);
    }

    private static void personRefused() {
        SwornCourt x = new SwornCourt();
        x.person(0, 0, 0, NONE, NONE, 1);
        Check.due("father itself", x.person(0, 0, 0, 1, NONE, 1), UNKNOWN);
        Check.due("father -2", x.person(0, 0, 0, -2, NONE, 1), UNKNOWN);
        Check.due("mother unknown", x.person(0, 0, 0, NONE, 1, 1), UNKNOWN);
        Check.due("unknown ahead of outside", x.person(1, 9, 9, 5, 5, 9), UNKNOWN);
        Check.due("one and the same", x.person(0, 0, 0, 0, 0, 1), OUTSIDE);
        Check.due("too old", x.person(-9001, 0, 0, NONE, NONE, 1), OUTSIDE);
        Check.due("not born", x.person(1, 0, 0, NONE, NONE, 1), OUTSIDE);
        Check.due("house -1", x.person(0, -1, 0, NONE, NONE, 1), OUTSIDE);
        Check.due("house 8", x.person(0, 8, 0, NONE, NONE, 1), OUTSIDE);
        Check.due("rank -1", x.person(0, 0, -1, NONE, NONE, 1), OUTSIDE);
        Check.due("rank 4", x.person(0, 0, 4, NONE, NONE, 1), OUTSIDE);
        Check.due("will 0", x.person(0, 0, 0, NONE, NONE, 0), OUTSIDE);
        Check.due("will 5", x.person(0, 0, 0, NONE, NONE, 5), OUTSIDE);
        Check.due("nothing changed", x.count(1), 1);
        x.go(7);
        Check.due("born now", x.person(7, 0, 0, 0, NONE, 1), 1);
        Check.due("born tomorrow", x.person(8, 0, 0, 0, NONE, 1), OUTSIDE);
    }

    private static void rank() {
        SwornCourt x = new SwornCourt();
        x.person(0, 0, 2, NONE, NONE, 1);
        x.person(0, 0, 0, NONE, NONE, 1);
        x.go(10);
        Check.due("rank unknown", x.rank(2, 9), UNKNOWN);
        Check.due("rank -1", x.rank(-1, 1), UNKNOWN);
        Check.due("rank outside", x.rank(0, 4), OUTSIDE);
        Check.due("rank below", x.rank(0, -1), OUTSIDE);
        Check.due("what it was", x.rank(0, 3), 2);
        x.go(5);
        Check.due("what it was then", x.rank(0, 1), 3);
        Check.due("once more that day", x.rank(0, 0), 1);
        Check.due("like before", x.rank(0, 0), 0);
        Check.due("as first told", x.told(0, 9, 2), 2);
        Check.due("on its day", x.told(0, 10, 2), 3);
        Check.due("ahead of the next", x.told(0, 14, 2), 3);
        Check.due("the last of a day", x.told(0, 15, 2), 0);
        Check.due("another one's", x.told(1, 15, 2), 0);
        for (int i = 4; i < 60; i++) x.rank(1, i % 4);
        Check.due("the 61st", x.rank(0, 1), FULL);
        Check.due("the 61st outside", x.rank(0, 4), OUTSIDE);
        Check.due("the 61st unknown", x.rank(7, 4), UNKNOWN);
        Check.due("the 60th holds", x.told(1, 15, 2), 59 % 4);
    }

    private static void die() {
        SwornCourt x = new SwornCourt();
        x.person(0, 0, 2, NONE, NONE, 1);
        Check.due("lives", x.told(0, 0, 6), NONE);
        Check.due("die unknown", x.die(1), UNKNOWN);
        Check.due("die none", x.die(NONE), UNKNOWN);
        x.go(4);
        Check.due("die", x.die(0), 1);
        x.go(1);
        Check.due("die again", x.die(0), NOT);
        Check.due("dead from 4", x.told(0, 5, 6), 4);
        Check.due("whatever the day", x.told(0, 0, 6), 4);
    }

    private static void feudAndPeace() {
        SwornCourt x = new SwornCourt();
        Check.due("first feud", x.feud(0, 7), 1);
        Check.due("twice", x.feud(0, 7), NOT);
        Check.due("the other way round", x.feud(7, 0), NOT);
        Check.due("one house", x.feud(3, 3), OUTSIDE);
        Check.due("house 8", x.feud(8, 3), OUTSIDE);
        Check.due("house -1", x.feud(3, -1), OUTSIDE);
        Check.due("second feud", x.feud(1, 0), 2);
        Check.due("they hold", x.count(2), 2);
        Check.due("peace outside", x.peace(0, 8), OUTSIDE);
        Check.due("peace below", x.peace(-1, 0), OUTSIDE);
        Check.due("peace with itself", x.peace(2, 2), OUTSIDE);
        Check.due("peace of none", x.peace(1, 7), NOT);
        Check.due("peace", x.peace(7, 0), 1);
        Check.due("peace again", x.peace(7, 0), NOT);
        Check.due("one holds", x.count(2), 1);
        Check.due("begins anew", x.feud(7, 0), 3);
        for (int i = 3; i < 20; i++) {
            x.peace(0, 7);
            Check.due("more feuds", x.feud(0, 7), i + 1);
        }
        Check.due("a 21st", x.feud(2, 3), FULL);
        Check.due("one that holds", x.feud(0, 1), NOT);
        Check.due("a 21st outside", x.feud(2, 2), OUTSIDE);
        feudDays();
    }

    private static void feudDays() {
        SwornCourt x = Check.under("from 0 kin 0;");
        Check.people(x, 3);
        x.charge(0, 0, 1, 0);
        x.go(3);
        x.feud(0, 2);
        x.go(4);
        Check.due("ahead of it", x.barred(2, 0, 2, 7), 0);
        Check.due("on its first day", x.barred(2, 0, 3, 7), 4);
        Check.due("as it is, whenever told", x.barred(2, 0, 3, 0), 4);
        Check.due("today", x.barred(2, 0, 7, 7), 4);
        x.peace(0, 2);
        Check.due("on the day of the peace", x.barred(2, 0, 7, 7), 0);
        Check.due("the day ahead", x.barred(2, 0, 6, 7), 4);
    }

    private static void go() {
        SwornCourt x = new SwornCourt();
        Check.due("go 0", x.go(0), 0);
        Check.due("go back", x.go(-1), OUTSIDE);
        Check.due("go too far", x.go(1001), OUTSIDE);
        for (int i = 1; i <= 8; i++) Check.due("go 1000", x.go(1000), i * 1000);
        Check.due("go 999", x.go(999), 8999);
        Check.due("above the last day", x.go(2), NOT);
        Check.due("outside ahead of not", x.go(1001), OUTSIDE);
        Check.due("to the last day", x.go(1), 9000);
        Check.due("beyond", x.go(1), NOT);
        Check.due("stay", x.go(0), 9000);
        Check.due("now", x.count(0), 9000);
        Check.due("the largest number", x.go(Integer.MAX_VALUE), OUTSIDE);
    }

    private static void told() {
        SwornCourt x = new SwornCourt();
        x.person(-5, 6, 2, NONE, NONE, 3);
        x.go(2);
        int[] wanted = {-5, 6, 2, NONE, NONE, 3, NONE};
        for (int what = 0; what <= 6; what++) Check.due("told " + what, x.told(0, 2, what), wanted[what]);
        Check.due("told unknown", x.told(1, -1, 9), UNKNOWN);
        Check.due("told of none", x.told(NONE, 0, 0), UNKNOWN);
        Check.due("told tomorrow", x.told(0, 3, 0), OUTSIDE);
        Check.due("told yesterday's", x.told(0, -1, 6), OUTSIDE);
        Check.due("told 7", x.told(0, 0, 7), OUTSIDE);
        Check.due("told -1", x.told(0, 0, -1), OUTSIDE);
    }

    private static void tie(SwornCourt x, int a, int b, int degree, int tie, int half) {
        String of = "(" + a + ", " + b + ")";
        Check.due("degree" + of, x.kin(a, b, 0), degree);
        Check.due("tie" + of, x.kin(a, b, 1), tie);
        Check.due("half" + of, x.kin(a, b, 2), half);
        Check.due("degree turned" + of, x.kin(b, a, 0), degree);
        Check.due("tie turned" + of, x.kin(b, a, 1), tie);
        Check.due("half turned" + of, x.kin(b, a, 2), half);
    }

    private static void kin() {
        SwornCourt x = new SwornCourt();
        x.person(0, 0, 0, NONE, NONE, 1); // 0
        x.person(0, 0, 0, NONE, NONE, 1); // 1
        x.person(0, 0, 0, NONE, NONE, 1); // 2
        x.person(0, 0, 0, 0, 1, 1); // 3
        x.person(0, 0, 0, 0, 1, 1); // 4
        x.person(0, 0, 0, 0, 2, 1); // 5 half of 3, 4
        x.person(0, 0, 0, 3, 5, 1); // 6 of half siblings
        x.person(0, 0, 0, 6, 0, 1); // 7 of 6 and of its forefather
        tie(x, 3, 3, 0, 3, 0);
        tie(x, 3, 4, 2, 0, 0);
        tie(x, 3, 5, 2, 0, 1);
        tie(x, 0, 3, 1, 0, 0);
        tie(x, 0, 1, NONE, NONE, 0);
        tie(x, 6, 4, 3, 0, 0);
        tie(x, 6, 0, 2, 0, 0);
        tie(x, 7, 0, 1, 0, 0);
        tie(x, 7, 3, 2, 0, 0);
        tie(x, 7, 2, 3, 2, 0);
        tie(x, 7, 4, 2, 0, 1);
        Check.due("kin unknown", x.kin(0, 8, 5), UNKNOWN);
        Check.due("kin unknown first", x.kin(-1, 0, 0), UNKNOWN);
        Check.due("kin 3", x.kin(0, 1, 3), OUTSIDE);
        Check.due("kin -1", x.kin(0, 1, -1), OUTSIDE);
    }

    private static void kinFar() {
        SwornCourt x = new SwornCourt();
        x.person(0, 0, 0, NONE, NONE, 1);
        for (int p = 1; p <= 10; p++) x.person(0, 0, 0, p - 1, NONE, 1);
        tie(x, 0, 8, 8, 0, 0);
        tie(x, 0, 9, NONE, NONE, 0);
        x.person(0, 0, 0, NONE, 0, 1); // 11, a child of 0 like 1
        tie(x, 11, 8, NONE, NONE, 0);
        tie(x, 11, 7, 8, 0, 1);
    }
}
