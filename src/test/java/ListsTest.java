/** Promises 28 to 32. */
public final class ListsTest {
    private static final int NONE = Check.NONE, UNKNOWN = Check.UNKNOWN, OUTSIDE = Check.OUTSIDE;

    public static void main(String[] args) {
        stood();
        ring();
        ringOfTwo();
        firstRing();
        ringWithoutTheFirst();
        left();
        leftByDay();
        forsaken();
        count();
        Check.end();
    }

    /** An oath of a for a CHARGE against b, by an ACCUSER who is neither. */
    private static void stand(SwornCourt x, int a, int b, int accuser) {
        int c = x.charge(0, b, accuser, 0);
        int counted = x.swear(a, c);
        if (counted < 0) Check.due("oath of " + a + " for " + b, counted, 1);
    }

    private static void stood() {
        SwornCourt x = Check.under("from 0 need 0 3 false 99;");
        Check.people(x, 5);
        x.charge(0, 0, 1, 0);
        x.charge(0, 0, 1, 0);
        x.charge(0, 2, 1, 0);
        x.swear(2, 0);
        x.swear(2, 1);
        x.swear(0, 2);
        Check.due("twice", x.stood(2, 0, 0), 2);
        Check.due("once", x.stood(0, 2, 0), 1);
        Check.due("owed", x.stood(2, 0, 1), 1);
        Check.due("owes", x.stood(0, 2, 1), -1);
        Check.due("none", x.stood(3, 0, 0), 0);
        Check.due("itself", x.stood(2, 2, 1), 0);
        x.swear(3, 0);
        x.swear(4, 0);
        x.find(0);
        Check.due("also one that counts nothing", x.stood(2, 0, 0), 2);
        Check.due("unknown", x.stood(5, 0, 9), UNKNOWN);
        Check.due("unknown b", x.stood(0, -1, 0), UNKNOWN);
        Check.due("what 2", x.stood(0, 0, 2), OUTSIDE);
        Check.due("what -1", x.stood(0, 0, -1), OUTSIDE);
    }

    private static void row(SwornCourt x, int... wanted) {
        int p = wanted[0];
        Check.due("ring of " + p, x.ring(p, NONE), wanted.length);
        for (int k = 0; k < wanted.length; k++) Check.due("ring of " + p + " at " + k, x.ring(p, k), wanted[k]);
        Check.due("none beyond", x.ring(p, wanted.length), NONE);
    }

    private static void ring() {
        SwornCourt x = Check.under("from 0 need 0 9;");
        Check.people(x, 8);
        Check.due("nobody", x.ring(0, NONE), 0);
        Check.due("nobody first", x.ring(0, 0), NONE);
        Check.due("below", x.ring(0, -2), NONE);
        Check.due("unknown", x.ring(8, NONE), UNKNOWN);
        Check.due("unknown below", x.ring(-1, 0), UNKNOWN);
        stand(x, 0, 3, 7);
        stand(x, 3, 2, 7);
        Check.due("no ring yet", x.ring(0, NONE), 0);
        stand(x, 2, 0, 7);
        stand(x, 4, 0, 7);
        row(x, 0, 3, 2);
        row(x, 3, 2, 0);
        row(x, 2, 0, 3);
        Check.due("4 is on none", x.ring(4, NONE), 0);
        stand(x, 0, 5, 7);
        stand(x, 5, 1, 7);
        stand(x, 1, 0, 7);
        row(x, 0, 3, 2);
    }

    private static void ringOfTwo() {
        SwornCourt x = Check.under("from 0 need 0 9;");
        Check.people(x, 6);
        stand(x, 0, 1, 5);
        stand(x, 1, 2, 5);
        stand(x, 2, 0, 5);
        stand(x, 0, 4, 5);
        stand(x, 4, 0, 5);
        row(x, 0, 4);
        row(x, 4, 0);
        row(x, 1, 2, 0);
    }

    private static void firstRing() {
        SwornCourt x = Check.under("from 0 need 0 9;");
        Check.people(x, 9);
        // 1 leads on to 7 alone, so 0 1 7 comes ahead of 0 2 3
        stand(x, 0, 2, 8);
        stand(x, 2, 3, 8);
        stand(x, 3, 0, 8);
        stand(x, 0, 1, 8);
        stand(x, 1, 7, 8);
        stand(x, 7, 0, 8);
        row(x, 0, 1, 7);
        // a smaller next one that leads on, but not as fast
        stand(x, 2, 1, 8);
        row(x, 2, 3, 0);
        row(x, 1, 7, 0);
    }

    private static void ringWithoutTheFirst() {
        SwornCourt x = Check.under("from 0 need 0 9;");
        Check.people(x, 5);
        stand(x, 2, 1, 4);
        stand(x, 1, 0, 4);
        Check.due("0 stood for nobody", x.ring(0, NONE), 0);
        Check.due("1 leads on to 0 alone", x.ring(1, NONE), 0);
        stand(x, 1, 2, 4);
        row(x, 1, 2);
        row(x, 2, 1);
    }

    private static void left() {
        SwornCourt x = Check.under("from 0 need 0 3 kin 1 count 1 4;");
        x.person(-9000, 0, 0, NONE, NONE, 1); // 0
        x.person(-9000, 1, 0, 0, NONE, 1); // 1
        x.person(-9000, 2, 1, NONE, NONE, 1); // 2
        x.person(-9000, 3, 0, NONE, NONE, 1); // 3
        Check.due("a stranger of rank 1 and one of 0", x.left(0, 0, 0), 5);
        Check.due("of the child", x.left(1, 0, 0), 5);
        Check.due("of 2", x.left(2, 0, 0), 3);
        x.feud(0, 2);
        Check.due("the feud", x.left(0, 0, 0), 1);
        x.die(3);
        Check.due("the dead", x.left(0, 0, 0), 0);
        Check.due("unknown", x.left(4, 9, 9), UNKNOWN);
        Check.due("kind 4", x.left(0, 4, 0), OUTSIDE);
        Check.due("kind -1", x.left(0, -1, 0), OUTSIDE);
        Check.due("tomorrow", x.left(0, 0, 1), OUTSIDE);
        Check.due("yesterday", x.left(0, 0, -1), OUTSIDE);
    }

    private static void leftByDay() {
        SwornCourt x = Check.under("from 0 need 0 1 count 0 2 false 9 lost 9; from 4 count 0 5 count 1 7;");
        Check.people(x, 4);
        x.charge(0, 3, 1, 0);
        x.charge(0, 1, 0, 0);
        x.swear(2, 0);
        x.go(6);
        x.rank(0, 1);
        Check.due("law and ranks of that day", x.left(3, 0, 3), 6);
        Check.due("law and ranks of another", x.left(3, 0, 4), 15);
        Check.due("ranks of today", x.left(3, 0, 6), 17);
        x.find(0);
        Check.due("2 is false", x.left(3, 0, 3), 4);
        Check.due("2 is false, 3 lost", x.left(1, 0, 3), 2);
        x.close(1);
        Check.due("1 lost today alone", x.left(3, 0, 4), 10);
        Check.due("1 lost today", x.left(3, 0, 6), 7);
    }

    private static void forsaken() {
        SwornCourt x = Check.under("from 0 need 0 3 need 1 2 kin 1; from 6 need 0 1;");
        x.person(-9000, 0, 0, NONE, NONE, 1); // 0
        x.person(-9000, 0, 0, 0, NONE, 1); // 1
        x.person(-9000, 0, 0, NONE, NONE, 1); // 2
        x.person(-9000, 1, 0, NONE, NONE, 1); // 3
        x.go(5);
        x.person(5, 0, 0, NONE, NONE, 1); // 4
        // LEFT: 0 and 1 have 3 each (2, 3, 4), the others 4
        Check.due("nobody", x.forsaken(0, 0, 5), 0);
        x.die(3);
        Check.due("parent and child", x.forsaken(0, 0, 5), 3);
        Check.due("a kind that needs less", x.forsaken(0, 1, 5), 0);
        Check.due("a kind that needs more", x.forsaken(0, 2, 5), 7 | 1 << 4);
        Check.due("the dead are not", x.forsaken(1, 0, 5), 0);
        Check.due("the day ahead", x.forsaken(0, 0, 4), 0);
        x.die(2);
        Check.due("all who live", x.forsaken(0, 0, 5), 3 | 1 << 4);
        x.die(1);
        Check.due("0 and 4", x.forsaken(0, 0, 5), 1 | 1 << 4);
        x.go(1);
        Check.due("by the law of that day", x.forsaken(0, 0, 6), 0);
        Check.due("of the day ahead", x.forsaken(0, 0, 5), 1 | 1 << 4);
        Check.due("not born by then", x.forsaken(0, 0, 4), 0);
        Check.due("house 8", x.forsaken(8, 0, 0), OUTSIDE);
        Check.due("house -1", x.forsaken(-1, 0, 0), OUTSIDE);
        Check.due("kind 4", x.forsaken(0, 4, 0), OUTSIDE);
        Check.due("tomorrow", x.forsaken(0, 0, 7), OUTSIDE);
        Check.due("below", x.forsaken(0, 0, -1), OUTSIDE);
        notBornYet();
    }

    private static void notBornYet() {
        SwornCourt x = new SwornCourt();
        x.go(5);
        x.person(3, 2, 0, NONE, NONE, 1);
        Check.due("born", x.forsaken(2, 0, 3), 1);
        Check.due("not born", x.forsaken(2, 0, 2), 0);
        x.die(0);
        Check.due("lived", x.forsaken(2, 0, 4), 1);
        Check.due("dead", x.forsaken(2, 0, 5), 0);
    }

    private static void count() {
        SwornCourt x = Check.under("from 0 need 0 1 fine 0 4 oath 1; from 3 kin 1;");
        Check.people(x, 5);
        x.feud(5, 6);
        x.feud(5, 7);
        x.peace(5, 6);
        x.go(2);
        for (int c = 0; c < 6; c++) x.charge(0, 0, 1, 0);
        x.swear(2, 0);
        x.swear(2, 1);
        x.swear(2, 2);
        x.find(0);
        x.close(3);
        int[] wanted = {2, 5, 1, 2, 6, 2, 2, 1, 1, 3, 9};
        for (int what = 0; what <= 10; what++) Check.due("count " + what, x.count(what), wanted[what]);
        Check.due("count 11", x.count(11), OUTSIDE);
        Check.due("count -1", x.count(-1), OUTSIDE);
    }
}
