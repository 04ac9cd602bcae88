/** Promises 22 and 23. */
public final class FinesTest {
    private static final int UNKNOWN = Check.UNKNOWN, OUTSIDE = Check.OUTSIDE, FULL = Check.FULL;

    public static void main(String[] args) {
        pay();
        owes();
        Check.end();
    }

    private static void pay() {
        SwornCourt x = new SwornCourt();
        Check.people(x, 2);
        Check.due("unknown", x.pay(2, 0), UNKNOWN);
        Check.due("none", x.pay(-1, 5), UNKNOWN);
        Check.due("nothing", x.pay(0, 0), OUTSIDE);
        Check.due("too much", x.pay(0, 10000), OUTSIDE);
        Check.due("ahead of what is owed", x.pay(0, 9999), -9999);
        for (int i = 2; i <= 60; i++) Check.due("payment", x.pay(1, 1), 1 - i);
        Check.due("a 61st", x.pay(0, 1), FULL);
        Check.due("a 61st outside", x.pay(0, 0), OUTSIDE);
        Check.due("paid", x.owes(0, 0, 1), 9999);
        Check.due("paid by the other", x.owes(1, 0, 1), 59);
        Check.due("nobody owes", x.count(10), 0);
    }

    private static void owes() {
        SwornCourt x = Check.under("from 0 need 0 4 need 1 1 need 2 1 fine 0 100 fine 1 1000 short 10 oath 3; from 1 fine 1 7;");
        Check.people(x, 5);
        x.charge(0, 0, 1, 0);
        x.charge(1, 0, 1, 0);
        x.charge(2, 0, 1, 0);
        x.swear(2, 0);
        x.swear(2, 1);
        x.swear(3, 2);
        x.go(2);
        x.charge(1, 0, 1, 2);
        x.swear(3, 3);
        Check.due("nothing yet", x.owes(0, 2, 0), 0);
        Check.due("closed", x.close(0), 3);
        Check.due("fine and what it lacks", x.owes(0, 2, 0), 130);
        Check.due("known by yesterday", x.owes(0, 1, 0), 0);
        Check.due("paid then", x.pay(0, 30), 100);
        x.go(1);
        x.find(1);
        x.find(3);
        Check.due("fallen, by the law of each deed", x.owes(0, 3, 0), 1137);
        Check.due("of the helper", x.owes(2, 3, 0), 3);
        Check.due("of another law", x.owes(3, 3, 0), 3);
        Check.due("met costs nothing", x.owes(4, 3, 0), 0);
        Check.due("paid", x.owes(0, 3, 1), 30);
        Check.due("paid by 1", x.owes(0, 1, 1), 0);
        Check.due("owes", x.owes(0, 3, 2), 1107);
        Check.due("owes known by 2", x.owes(0, 2, 2), 100);
        Check.due("all", x.count(10), 1113);
        Check.due("too much", x.pay(2, 50), -47);
        Check.due("all without those who paid too much", x.count(10), 1110);
        Check.due("unknown", x.owes(5, 9, 9), UNKNOWN);
        Check.due("tomorrow", x.owes(0, 4, 0), OUTSIDE);
        Check.due("below", x.owes(0, -1, 0), OUTSIDE);
        Check.due("what 3", x.owes(0, 0, 3), OUTSIDE);
        Check.due("what -1", x.owes(0, 0, -1), OUTSIDE);
    }
}
