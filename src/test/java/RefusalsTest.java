import java.util.ArrayList;
import java.util.List;
import java.util.function.ToIntFunction;

/** REFUSALS of all promises: the first of several in their order; what is refused changes nothing. */
public final class RefusalsTest {
    private static final int NONE = Check.NONE, UNKNOWN = Check.UNKNOWN, OUTSIDE = Check.OUTSIDE;
    private static final int NOT = Check.NOT, FULL = Check.FULL;
    private static final int[] FAR = {Integer.MIN_VALUE, Integer.MIN_VALUE + 1, -100004, -100001, -9001, -2,
        31, 32, 64, 100, 10000, 65536, Integer.MAX_VALUE - 1, Integer.MAX_VALUE};

    private static final List<Integer> BEFORE = look(world());

    public static void main(String[] args) {
        Check.edge("What is refused changes nothing.");
        persons();
        parents();
        law();
        charges();
        oaths();
        asked();
        sessions();
        lists();
        Check.edge("REFUSALS, of several the first in this order");
        unknownFirst();
        outsideAheadOfNot();
        notAheadOfFull();
        Check.edge("FULL. What is refused changes nothing.");
        full();
        fullText();
        Check.edge("OUTSIDE (another number out of its bounds)");
        farOff();
        Check.end();
    }

    /** Seven PERSONS on day 6, CHARGES 0 FALLEN, 1 LOST, 2 MET, 3 and 4 OPEN; some text; BOUND 200. */
    private static SwornCourt world() {
        SwornCourt x = Check.under("from 0 need 0 1 need 1 2 kin 1 fine 0 5 short 2 oath 3 false 4 lost 3;");
        for (int p = 0; p < 6; p++) x.person(-100, p, p % 4, NONE, NONE, 2);
        x.person(0, 5, 0, 4, 5, 2);
        for (int c = 0; c < 4; c++) x.charge(c % 2, c % 2 == 0 ? 0 : 3, 1, 0);
        x.swear(2, 0);
        x.swear(2, 1);
        x.go(3);
        x.find(0);
        x.close(1);
        x.swear(4, 2);
        x.rank(4, 3);
        x.feud(0, 5);
        x.feud(1, 2);
        x.peace(1, 2);
        x.go(3);
        x.charge(1, 0, 4, 6);
        x.swear(5, 3);
        x.die(6);
        x.pay(0, 2);
        x.bound(200);
        x.feed(3, 0x20782030L);
        return x;
    }

    /** All that can be asked, and then what the next ones told would be. */
    private static List<Integer> look(SwornCourt x) {
        List<Integer> seen = new ArrayList<>();
        for (int what = 0; what <= 10; what++) seen.add(x.count(what));
        for (int p = 0; p < 7; p++) {
            for (int what = 0; what <= 6; what++) seen.add(x.told(p, 6, what));
            seen.add(x.told(p, 2, 2));
            for (int what = 0; what <= 2; what++) seen.add(x.owes(p, 6, what));
            for (int q = 0; q < 7; q++) seen.add(x.stood(p, q, 0));
            for (int c = 0; c < 5; c++) seen.add(x.barred(p, c, 6, 6));
            seen.add(x.ring(p, NONE));
            seen.add(x.left(p, 0, 6));
        }
        for (int rule = 0; rule <= 10; rule++) seen.add(x.law(rule, 0, 9999));
        for (int o = 0; o < 5; o++) {
            for (int what = 0; what <= 3; what++) seen.add(x.oath(o, what));
        }
        for (int c = 0; c < 5; c++) {
            for (int what = 0; what <= 8; what++) seen.add(x.state(c, 6, what));
            seen.add(x.lacks(c));
        }
        for (int house = 0; house < 8; house++) seen.add(x.forsaken(house, 1, 6));
        seen.add(x.turned(0, 6));
        seen.add(x.turned(2, 4));
        for (int what = 0; what <= 3; what++) seen.add(x.session(24, what));
        seen.add(x.called(24, 3));
        seen.add(x.called(24, 4));
        seen.add(x.kin(4, 6, 0));
        seen.add(x.fault());
        lookAtNext(x, seen);
        return seen;
    }

    private static void lookAtNext(SwornCourt x, List<Integer> seen) {
        seen.add(x.read());
        seen.add(x.fault());
        seen.add(x.bound(100));
        seen.add(x.feed(1, 32));
        seen.add(x.feud(3, 4));
        seen.add(x.peace(0, 5));
        seen.add(x.rank(0, 3));
        seen.add(x.pay(0, 1));
        seen.add(x.person(0, 0, 0, NONE, NONE, 1));
        seen.add(x.charge(0, 2, 3, 0));
        seen.add(x.swear(7, 4));
        seen.add(x.oath(4, 0));
        seen.add(x.go(0));
    }

    private static void refused(String call, int want, ToIntFunction<SwornCourt> made) {
        SwornCourt x = world();
        Check.due(call, made.applyAsInt(x), want);
        List<Integer> after = look(x);
        for (int i = 0; i < after.size(); i++) Check.due("behind " + call + ": answer " + i, after.get(i), BEFORE.get(i));
    }

    private static void persons() {
        refused("rank of nobody", UNKNOWN, x -> x.rank(7, 0));
        refused("rank 4", OUTSIDE, x -> x.rank(0, 4));
        refused("rank -1", OUTSIDE, x -> x.rank(0, -1));
        refused("die of nobody", UNKNOWN, x -> x.die(7));
        refused("die twice", NOT, x -> x.die(6));
        refused("feud of one house", OUTSIDE, x -> x.feud(3, 3));
        refused("feud with house 8", OUTSIDE, x -> x.feud(3, 8));
        refused("feud that holds", NOT, x -> x.feud(5, 0));
        refused("peace of one house", OUTSIDE, x -> x.peace(3, 3));
        refused("peace with house -1", OUTSIDE, x -> x.peace(0, -1));
        refused("peace of none", NOT, x -> x.peace(1, 2));
        refused("go back", OUTSIDE, x -> x.go(-1));
        refused("go 1001", OUTSIDE, x -> x.go(1001));
        refused("told of nobody", UNKNOWN, x -> x.told(7, 0, 0));
        refused("told of tomorrow", OUTSIDE, x -> x.told(0, 7, 0));
        refused("told 7", OUTSIDE, x -> x.told(0, 0, 7));
        refused("kin of nobody", UNKNOWN, x -> x.kin(0, 7, 0));
        refused("kin 3", OUTSIDE, x -> x.kin(0, 1, 3));
    }

    private static void parents() {
        refused("person of no father", UNKNOWN, x -> x.person(0, 0, 0, 7, NONE, 1));
        refused("person of no mother", UNKNOWN, x -> x.person(0, 0, 0, NONE, 7, 1));
        refused("person of one twice", OUTSIDE, x -> x.person(0, 0, 0, 1, 1, 1));
        refused("person of tomorrow", OUTSIDE, x -> x.person(7, 0, 0, NONE, NONE, 1));
        refused("person of house 8", OUTSIDE, x -> x.person(0, 8, 0, NONE, NONE, 1));
        refused("person of rank 4", OUTSIDE, x -> x.person(0, 0, 4, NONE, NONE, 1));
        refused("person of will 0", OUTSIDE, x -> x.person(0, 0, 0, NONE, NONE, 0));
    }

    private static void law() {
        refused("feed 0", OUTSIDE, x -> x.feed(0, 32));
        refused("feed 9", OUTSIDE, x -> x.feed(9, 32));
        refused("read with charges", NOT, SwornCourt::read);
        refused("law 11", OUTSIDE, x -> x.law(11, 0, 0));
        refused("law of k 1", OUTSIDE, x -> x.law(2, 1, 0));
        refused("law of day 10000", OUTSIDE, x -> x.law(0, 0, 10000));
    }

    private static void charges() {
        refused("charge against nobody", UNKNOWN, x -> x.charge(0, 7, 0, 0));
        refused("charge by nobody", UNKNOWN, x -> x.charge(0, 0, 7, 0));
        refused("charge of kind 4", OUTSIDE, x -> x.charge(4, 0, 1, 0));
        refused("charge by the accused", OUTSIDE, x -> x.charge(0, 1, 1, 0));
        refused("charge for tomorrow", OUTSIDE, x -> x.charge(0, 0, 1, 7));
        refused("close of none", UNKNOWN, x -> x.close(5));
        refused("close of a fallen one", NOT, x -> x.close(0));
        refused("close of a lost one", NOT, x -> x.close(1));
        refused("close of a met one", NOT, x -> x.close(2));
        refused("find of none", UNKNOWN, x -> x.find(5));
        refused("find of a found one", NOT, x -> x.find(0));
        refused("find of a lost one", NOT, x -> x.find(1));
        refused("find of an open one", NOT, x -> x.find(3));
    }

    private static void oaths() {
        refused("swear of nobody", UNKNOWN, x -> x.swear(7, 3));
        refused("swear for none", UNKNOWN, x -> x.swear(2, 5));
        refused("swear for a fallen one", NOT, x -> x.swear(3, 0));
        refused("swear for a lost one", NOT, x -> x.swear(4, 1));
        refused("swear for a met one", NOT, x -> x.swear(3, 2));
        refused("swear of the accused", NOT, x -> x.swear(3, 3));
        refused("swear of the dead", NOT, x -> x.swear(6, 3));
        refused("swear in a feud", NOT, x -> x.swear(5, 4));
        refused("swear twice", NOT, x -> x.swear(5, 3));
        refused("oath that there is not", NONE, x -> x.oath(4, 0));
        refused("oath 4", OUTSIDE, x -> x.oath(0, 4));
    }

    private static void asked() {
        refused("barred of nobody", UNKNOWN, x -> x.barred(7, 0, 0, 0));
        refused("barred from none", UNKNOWN, x -> x.barred(0, 5, 0, 0));
        refused("barred tomorrow", OUTSIDE, x -> x.barred(0, 0, 7, 0));
        refused("barred as known tomorrow", OUTSIDE, x -> x.barred(0, 0, 0, 7));
        refused("state of none", UNKNOWN, x -> x.state(5, 6, 0));
        refused("state ahead of its telling", OUTSIDE, x -> x.state(4, 5, 0));
        refused("state 9", OUTSIDE, x -> x.state(4, 6, 9));
        refused("turned tomorrow", OUTSIDE, x -> x.turned(0, 7));
        refused("turned below", OUTSIDE, x -> x.turned(-1, 6));
        refused("pay of nobody", UNKNOWN, x -> x.pay(7, 1));
        refused("pay 0", OUTSIDE, x -> x.pay(0, 0));
        refused("pay 10000", OUTSIDE, x -> x.pay(0, 10000));
        refused("owes of nobody", UNKNOWN, x -> x.owes(7, 0, 0));
        refused("owes tomorrow", OUTSIDE, x -> x.owes(0, 7, 0));
        refused("owes 3", OUTSIDE, x -> x.owes(0, 0, 3));
    }

    private static void sessions() {
        refused("bound 99", OUTSIDE, x -> x.bound(99));
        refused("bound 3001", OUTSIDE, x -> x.bound(3001));
        refused("session of one that there is not", UNKNOWN, x -> x.session(40, 0));
        refused("session of none", OUTSIDE, x -> x.session(0, 0));
        refused("session 4", OUTSIDE, x -> x.session(8, 4));
        refused("session of a met one", NOT, x -> x.session(12, 0));
        refused("called by one that there is not", UNKNOWN, x -> x.called(40, 3));
        refused("called for one that there is not", UNKNOWN, x -> x.called(8, 5));
        refused("called for one that is not of it", OUTSIDE, x -> x.called(8, 4));
        refused("called by a lost one", NOT, x -> x.called(10, 3));
        refused("lacks of none", UNKNOWN, x -> x.lacks(5));
        refused("lacks of a met one", NOT, x -> x.lacks(2));
    }

    private static void lists() {
        refused("stood of nobody", UNKNOWN, x -> x.stood(7, 0, 0));
        refused("stood 2", OUTSIDE, x -> x.stood(0, 0, 2));
        refused("ring of nobody", UNKNOWN, x -> x.ring(7, NONE));
        refused("ring at none", NONE, x -> x.ring(0, 30));
        refused("left of nobody", UNKNOWN, x -> x.left(7, 0, 0));
        refused("left of kind 4", OUTSIDE, x -> x.left(0, 4, 0));
        refused("left tomorrow", OUTSIDE, x -> x.left(0, 0, 7));
        refused("forsaken of house 8", OUTSIDE, x -> x.forsaken(8, 0, 0));
        refused("forsaken of kind 4", OUTSIDE, x -> x.forsaken(0, 4, 0));
        refused("forsaken tomorrow", OUTSIDE, x -> x.forsaken(0, 0, 7));
        refused("count 11", OUTSIDE, x -> x.count(11));
    }

    private static void unknownFirst() {
        SwornCourt x = world();
        Check.due("person", x.person(9, 9, 9, 7, 7, 9), UNKNOWN);
        Check.due("rank", x.rank(7, 9), UNKNOWN);
        Check.due("told", x.told(7, 9, 9), UNKNOWN);
        Check.due("kin", x.kin(0, 7, 9), UNKNOWN);
        Check.due("charge", x.charge(9, 7, 7, 9), UNKNOWN);
        Check.due("barred of nobody", x.barred(7, 0, 9, 9), UNKNOWN);
        Check.due("barred from none", x.barred(0, 5, 9, 9), UNKNOWN);
        Check.due("swear, not now", x.swear(6, 5), UNKNOWN);
        Check.due("swear for a lost one", x.swear(7, 1), UNKNOWN);
        Check.due("state", x.state(5, 9, 9), UNKNOWN);
        Check.due("pay", x.pay(7, 0), UNKNOWN);
        Check.due("owes", x.owes(7, 9, 9), UNKNOWN);
        Check.due("session of seven", x.session(127, 9), UNKNOWN);
        Check.due("session with a lost one", x.session(34, 0), UNKNOWN);
        Check.due("called, not of it", x.called(32, 0), UNKNOWN);
        Check.due("called of none", x.called(0, 5), UNKNOWN);
        Check.due("stood", x.stood(0, 7, 9), UNKNOWN);
        Check.due("left", x.left(7, 9, 9), UNKNOWN);
    }

    private static void outsideAheadOfNot() {
        SwornCourt x = world();
        Check.due("session of a lost one, 4", x.session(2, 4), OUTSIDE);
        Check.due("called by a lost one, not of it", x.called(2, 0), OUTSIDE);
        for (int i = 0; i < 9; i++) x.go(i == 8 ? 994 : 1000);
        Check.due("now", x.count(0), 9000);
        Check.due("go 1001 from 9000", x.go(1001), OUTSIDE);
        Check.due("go 1000 from 9000", x.go(1000), NOT);
    }

    private static void notAheadOfFull() {
        SwornCourt x = filled();
        Check.due("feud that holds", x.feud(7, 6), NOT);
        Check.due("swear twice", x.swear(0, 0), NOT);
        Check.due("swear of the accused", x.swear(29, 19), NOT);
        Check.due("swear for a lost one", x.swear(26, 18), NOT);
        Check.due("feud of one house", x.feud(6, 6), OUTSIDE);
        Check.due("rank 4", x.rank(0, 4), OUTSIDE);
        Check.due("charge of kind 4", x.charge(4, 0, 1, 0), OUTSIDE);
        Check.due("person of house 8", x.person(0, 8, 0, NONE, NONE, 1), OUTSIDE);
        Check.due("pay 0", x.pay(0, 0), OUTSIDE);
        Check.due("person of no father", x.person(0, 8, 0, 30, NONE, 1), UNKNOWN);
        Check.due("rank of nobody", x.rank(30, 4), UNKNOWN);
        Check.due("charge against nobody", x.charge(4, 30, 1, 0), UNKNOWN);
        Check.due("pay of nobody", x.pay(30, 0), UNKNOWN);
        Check.due("swear of nobody", x.swear(30, 19), UNKNOWN);
    }

    /** 30 PERSONS, 60 changes of RANK, 20 FEUDS, 20 CHARGES, 100 OATHS, 60 payments; CHARGE 18 is LOST. */
    private static SwornCourt filled() {
        SwornCourt x = Check.under("from 0 need 0 99;");
        for (int p = 0; p < 30; p++) x.person(-9000, p % 8, 0, NONE, NONE, 4);
        for (int i = 0; i < 60; i++) x.rank(29, 1 + i % 3);
        for (int i = 0; i < 20; i++) {
            x.feud(6, 7);
            if (i < 19) x.peace(6, 7);
        }
        for (int c = 0; c < 20; c++) x.charge(0, 29, 28, 0);
        for (int o = 0; o < 100; o++) x.swear(o % 25, o / 25);
        for (int i = 0; i < 60; i++) x.pay(29, 2);
        x.go(1);
        x.close(18);
        return x;
    }

    private static List<Integer> lookAtFilled(SwornCourt x) {
        List<Integer> seen = new ArrayList<>();
        for (int what = 0; what <= 10; what++) seen.add(x.count(what));
        for (int p : new int[] {0, 29}) {
            for (int what = 0; what <= 6; what++) seen.add(x.told(p, 0, what));
            seen.add(x.owes(p, 1, 1));
        }
        for (int c : new int[] {0, 18, 19}) {
            for (int what = 0; what <= 8; what++) seen.add(x.state(c, 1, what));
        }
        for (int what = 0; what <= 3; what++) seen.add(x.oath(99, what));
        seen.add(x.oath(100, 0));
        seen.add(x.told(30, 0, 0));
        seen.add(x.state(20, 1, 0));
        seen.add(x.session(1 << 19, 2));
        return seen;
    }

    private static void fullIn(String call, List<Integer> before, ToIntFunction<SwornCourt> made) {
        SwornCourt x = filled();
        Check.due(call, made.applyAsInt(x), FULL);
        List<Integer> after = lookAtFilled(x);
        for (int i = 0; i < after.size(); i++) Check.due("behind " + call + ": answer " + i, after.get(i), before.get(i));
    }

    private static void full() {
        List<Integer> before = lookAtFilled(filled());
        Check.due("oaths", before.get(9), 100);
        fullIn("a 31st person", before, x -> x.person(0, 0, 0, NONE, NONE, 1));
        fullIn("a 61st change", before, x -> x.rank(0, 1));
        fullIn("a 61st change of 29", before, x -> x.rank(29, 0));
        fullIn("a 21st feud", before, x -> x.feud(1, 2));
        fullIn("a 21st charge", before, x -> x.charge(0, 0, 1, 0));
        fullIn("a 101st oath", before, x -> x.swear(26, 19));
        fullIn("a 61st payment", before, x -> x.pay(0, 1));
    }

    private static void fullText() {
        SwornCourt x = new SwornCourt();
        Check.due("239 bytes", Check.feed(x, "from 1 kin 7;" + " ".repeat(226)), 239);
        for (int n = 2; n <= 8; n++) Check.due("by " + n, x.feed(n, 0x7878787878787878L), FULL);
        Check.due("the last byte", x.feed(1, ' '), 240);
        Check.due("no byte more", x.feed(1, 'x'), FULL);
        Check.due("none of these came in", x.read(), 1);
        Check.due("kin", x.law(2, 0, 1), 7);
    }

    private static void farOff() {
        for (int n : FAR) {
            SwornCourt x = world();
            String of = " " + n;
            Check.due("born" + of, x.person(n, 0, 0, NONE, NONE, 1), n == -2 ? 7 : OUTSIDE);
            Check.due("house" + of, x.person(0, n, 0, NONE, NONE, 1), OUTSIDE);
            Check.due("will" + of, x.person(0, 0, 0, NONE, NONE, n), OUTSIDE);
            Check.due("father" + of, x.person(0, 0, 0, n, NONE, 1), UNKNOWN);
            Check.due("rank" + of, x.rank(0, n), OUTSIDE);
            Check.due("rank of" + of, x.rank(n, 0), UNKNOWN);
            Check.due("feud" + of, x.feud(0, n), OUTSIDE);
            Check.due("peace" + of, x.peace(n, 5), OUTSIDE);
            Check.due("told" + of, x.told(0, n, 0), OUTSIDE);
            Check.due("feed" + of, x.feed(n, 0), OUTSIDE);
            Check.due("law of k" + of, x.law(0, n, 0), OUTSIDE);
            Check.due("kind" + of, x.charge(n, 0, 1, 0), OUTSIDE);
            Check.due("deed" + of, x.charge(0, 0, 1, n), OUTSIDE);
            Check.due("barred on" + of, x.barred(0, 0, n, 0), OUTSIDE);
            Check.due("barred known by" + of, x.barred(0, 0, 0, n), OUTSIDE);
            Check.due("swear of" + of, x.swear(n, 3), UNKNOWN);
            Check.due("oath" + of, x.oath(n, 0), NONE);
            Check.due("state" + of, x.state(0, 6, n), OUTSIDE);
            Check.due("turned" + of, x.turned(n, n), OUTSIDE);
            Check.due("owes" + of, x.owes(0, n, 0), OUTSIDE);
            Check.due("called" + of, x.called(8, n), UNKNOWN);
            Check.due("ring at" + of, x.ring(0, n), NONE);
            Check.due("left on" + of, x.left(0, 0, n), OUTSIDE);
            Check.due("forsaken" + of, x.forsaken(n, n, n), OUTSIDE);
            Check.due("count" + of, x.count(n), OUTSIDE);
        }
    }
}
