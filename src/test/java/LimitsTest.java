/** All that has a limit is filled up to it, and every call is made then: the limits of 2, 3, 5, 14, 16, 22 at once. */
public final class LimitsTest {
    private static final int NONE = Check.NONE, FULL = Check.FULL, NOT = Check.NOT;

    public static void main(String[] args) {
        SwornCourt x = Check.under("from 0 need 0 99 need 1 1 count 3 0 lost 9 false 9 oath 1 short 1 fine 0 0;");
        fill(x);
        full(x);
        asked(x);
        Check.end();
    }

    private static void fill(SwornCourt x) {
        for (int p = 0; p < 30; p++) Check.due("person", x.person(-9000, p % 8, 0, NONE, NONE, 4), p);
        for (int i = 0; i < 60; i++) Check.due("rank", x.rank(29, i % 2), i == 0 ? 0 : (i + 1) % 2);
        for (int i = 0; i < 20; i++) {
            Check.due("feud", x.feud(6, 7), i + 1);
            if (i < 19) x.peace(6, 7);
        }
        for (int c = 0; c < 20; c++) Check.due("charge", x.charge(c == 19 ? 1 : 0, 29, 28, 0), c);
        for (int day = 0; day < 4; day++) {
            for (int p = 0; p < 25; p++) Check.due("oath", x.swear(p, day), p + 1);
            x.go(1);
        }
        for (int i = 0; i < 60; i++) x.pay(29, 2);
    }

    private static void full(SwornCourt x) {
        Check.due("a 31st person", x.person(0, 0, 0, NONE, NONE, 1), FULL);
        Check.due("a 61st change", x.rank(0, 1), FULL);
        Check.due("a 21st feud", x.feud(1, 2), FULL);
        Check.due("a 21st charge", x.charge(0, 0, 1, 0), FULL);
        Check.due("a 101st oath", x.swear(27, 19), FULL);
        Check.due("a 61st payment", x.pay(0, 1), FULL);
        Check.due("read", x.read(), NOT);
    }

    private static void asked(SwornCourt x) {
        for (int c = 0; c < 18; c++) x.close(c);
        int[] wanted = {4, 30, 1, 1, 20, 2, 0, 18, 0, 100, 4 * 74 + 14 * 99 - 120};
        for (int what = 0; what <= 10; what++) Check.due("count " + what, x.count(what), wanted[what]);
        Check.due("owes", x.owes(29, 4, 2), wanted[10]);
        Check.due("kin", x.kin(29, 28, 0), NONE);
        Check.due("barred", x.barred(29, 19, 4, 4), 2);
        Check.due("lost", x.barred(28, 19, 4, 4), 2);
        Check.due("the last person", x.stood(24, 29, 0), 4);
        Check.due("oaths of 24 owed", x.stood(29, 24, 1), -4);
        Check.due("ring", x.ring(29, NONE), 0);
        Check.due("state", x.state(19, 4, 8), 1);
        Check.due("turned", x.turned(3, 4), 18);
        Check.due("session", x.session(3 << 18, 0), 1);
        Check.due("called for 18", x.called(3 << 18, 18), 0);
        Check.due("called for 19", x.called(3 << 18, 19), 1);
        Check.due("lacks", x.lacks(18), 99 - 28 + 0);
        Check.due("left", x.left(28, 0, 4), 28);
        Check.due("forsaken", x.forsaken(5, 0, 4), 1 << 5 | 1 << 13 | 1 << 21 | 1 << 29);
        Check.due("find", x.find(19), NOT);
        Check.due("oath", x.oath(99, 3), 1);
        Check.due("told", x.told(29, 0, 2), 1);
    }
}
