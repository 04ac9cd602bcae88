import java.util.Random;

/** Random runs of calls, the same ones each time: SwornCourt must answer as the Oracle does. */
public final class OracleTest {
    private static final int CALLS = 512;
    private static final String[] LAWS = {
        "from 0 need 0 2 need 1 3 need 2 1 count 1 2 count 2 3 kin 1 false 9 lost 6 age 5 fine 1 20 short 3 oath 4;",
        "from 0 need 0 1 need 1 2 need 2 2 need 3 0 kin 3 half 1 false 30 lost 30 fine 0 7 oath 2 short 1;",
        "from 0 need 0 4 need 1 6 need 2 8 need 3 1 count 1 3 count 2 0 count 3 5 kin 0 feud 0 false 3;"
            + "from 5 need 0 2 feud 1 lost 9 age 50; from 20 kin 2 half 1 short 9 oath 9 false 40;",
        "from 3 need 0 2 count 0 2 false 2; from 9 need 0 1 need 1 1 lost 2;from 40 count 0 0 count 1 1 age 9000;",
        "from 0 need 0 5 need 1 7 need 2 3 need 3 9 count 1 2 false 4 lost 4 kin 0;",
        ""};
    private static final String[] SCRAPS = {
        "from ", "from", "need 0 ", "count ", "kin ", "half 1 ", "feud 0", "false ", "lost 5 ", "age", "fine 3 ", "short",
        "oath ", ";", "; ", " ", "1 ", "12", "3", "0", "12345", "4 ", "100 ", "x", "F", "\t", "9999", "7;", "from 3 ", "kin 2 "};

    private final Random random;
    private final SwornCourt court = new SwornCourt();
    private final Oracle oracle = new Oracle();
    private final String run;

    private OracleTest(long seed) {
        random = new Random(seed);
        run = "run " + seed + ": ";
    }

    public static void main(String[] args) {
        int runs = args.length > 0 ? Integer.parseInt(args[0]) : 40;
        int first = args.length > 1 ? Integer.parseInt(args[1]) : 0;
        for (int seed = first; seed < first + runs; seed++) {
            new OracleTest(seed).play(seed % 5);
        }
        Check.end();
    }

    private int pick(int a, int b) {
        return a + random.nextInt(b - a + 1);
    }

    /** Mostly within, now and then just outside, seldom far off. */
    private int some(int a, int b) {
        int dice = random.nextInt(60);
        if (dice == 0) return a - 1;
        if (dice == 1) return b + 1;
        if (dice == 2 && random.nextInt(4) == 0) return random.nextBoolean() ? Integer.MIN_VALUE : Integer.MAX_VALUE;
        return b < a ? a : pick(a, b);
    }

    private int p() {
        return some(0, oracle.count(1) - 1);
    }

    private int c() {
        return some(0, oracle.count(4) - 1);
    }

    private int day() {
        return some(0, oracle.count(0));
    }

    private void due(String call, long got, long want) {
        Check.due(run + call, got, want);
    }

    private void play(int flavour) {
        if (flavour == 0) texts();
        else lawAhead();
        people(pick(4, flavour == 1 ? 12 : 26), flavour);
        for (int i = 0; i < CALLS - 120; i++) {
            int dice = random.nextInt(100);
            if (dice < 4) person();
            else if (dice < 12) lives();
            else if (dice < 20) charge();
            else if (dice < 50) swears();
            else if (dice < 60) decides(flavour);
            else asks();
        }
    }

    private void lawAhead() {
        String law = LAWS[random.nextInt(LAWS.length)];
        for (int i = 0; i < law.length(); i += 8) feed(law.substring(i, Math.min(law.length(), i + 8)));
        due("read", court.read(), oracle.read());
    }

    private void feed(String some) {
        long bytes = random.nextLong();
        for (int i = 0; i < some.length(); i++) bytes = bytes << 8 | some.charAt(i);
        due("feed " + some, court.feed(some.length(), bytes), oracle.feed(some.length(), bytes));
    }

    private void texts() {
        for (int i = 0; i < 12; i++) {
            int scraps = random.nextInt(18);
            for (int k = 0; k < scraps; k++) feed(SCRAPS[random.nextInt(SCRAPS.length)]);
            due("read", court.read(), oracle.read());
            due("fault", court.fault(), oracle.fault());
            due("parts", court.count(3), oracle.count(3));
        }
    }

    private void people(int n, int flavour) {
        for (int i = 0; i < n; i++) person();
        if (flavour == 2) go(pick(0, 40));
    }

    private void person() {
        int born = some(-9000, oracle.count(0)), house = some(0, random.nextInt(3) == 0 ? 7 : 2), rank = some(0, 3);
        if (random.nextInt(3) == 0) born = oracle.count(0) - pick(0, 8);
        int father = random.nextInt(2) == 0 ? -1 : p(), mother = random.nextInt(2) == 0 ? -1 : p(), will = some(1, 4);
        due("person", court.person(born, house, rank, father, mother, will),
            oracle.person(born, house, rank, father, mother, will));
    }

    private void go(int n) {
        due("go " + n, court.go(n), oracle.go(n));
    }

    private void lives() {
        int p = p(), a = some(0, 3), b = some(0, 7), dice = random.nextInt(10);
        if (dice == 0) due("die " + p, court.die(p), oracle.die(p));
        else if (dice < 3) due("rank " + p, court.rank(p, a), oracle.rank(p, a));
        else if (dice < 5) due("feud " + a + " " + b, court.feud(a, b), oracle.feud(a, b));
        else if (dice < 7) due("peace " + a + " " + b, court.peace(a, b), oracle.peace(a, b));
        else if (dice < 9) go(some(0, 3));
        else go(some(0, random.nextInt(20) == 0 ? 1000 : 12));
    }

    private void charge() {
        int kind = some(0, 3), a = p(), b = p(), deed = day();
        due("charge", court.charge(kind, a, b, deed), oracle.charge(kind, a, b, deed));
    }

    private void swears() {
        int p = p(), c = c();
        due("swear " + p + " " + c, court.swear(p, c), oracle.swear(p, c));
    }

    private void decides(int flavour) {
        int c = c(), dice = random.nextInt(5);
        if (dice < 3) due("find " + c, court.find(c), oracle.find(c));
        else if (dice == 3 && flavour != 3) due("close " + c, court.close(c), oracle.close(c));
        else {
            int p = p(), coins = some(1, random.nextBoolean() ? 20 : 9999);
            due("pay " + p, court.pay(p, coins), oracle.pay(p, coins));
        }
    }

    private void asks() {
        int dice = random.nextInt(20), p = p(), q = p(), c = c(), a = day(), b = day();
        if (dice < 2) {
            int what = some(0, 2);
            due("kin " + p + " " + q + " " + what, court.kin(p, q, what), oracle.kin(p, q, what));
        } else if (dice < 3) {
            int what = some(0, 6);
            due("told " + p + " " + a + " " + what, court.told(p, a, what), oracle.told(p, a, what));
        } else if (dice < 4) {
            int rule = some(0, 10), k = some(0, 3);
            due("law " + rule, court.law(rule, k, a), oracle.law(rule, k, a));
        } else if (dice < 7) {
            due("barred " + p + " " + c + " " + a + " " + b, court.barred(p, c, a, b), oracle.barred(p, c, a, b));
        } else if (dice < 8) {
            int i = some(0, oracle.count(9) - 1), what = some(0, 3);
            due("oath " + i + " " + what, court.oath(i, what), oracle.oath(i, what));
        } else if (dice < 10) {
            int what = some(0, 8);
            due("state " + c + " " + a + " " + what, court.state(c, a, what), oracle.state(c, a, what));
        } else if (dice < 11) {
            due("turned " + a + " " + b, court.turned(a, b), oracle.turned(a, b));
        } else if (dice < 12) {
            int what = some(0, 2);
            due("owes " + p + " " + a + " " + what, court.owes(p, a, what), oracle.owes(p, a, what));
        } else if (dice < 15) {
            session(c);
        } else if (dice < 16) {
            due("lacks " + c, court.lacks(c), oracle.lacks(c));
        } else {
            lists(p, q, a);
        }
    }

    private void session(int c) {
        if (random.nextInt(4) == 0) {
            int v = some(100, random.nextBoolean() ? 300 : 3000);
            due("bound " + v, court.bound(v), oracle.bound(v));
            return;
        }
        int set = random.nextInt(30) == 0 ? random.nextInt() : 0, wanted = pick(1, 5), charges = oracle.count(4);
        for (int i = 0; i < 40 && Integer.bitCount(set) < wanted && charges > 0; i++) {
            int d = random.nextInt(charges);
            if (oracle.state(d, oracle.count(0), 0) == 0 || random.nextInt(200) == 0) set |= 1 << d;
        }
        if (random.nextBoolean()) {
            int what = some(0, 3);
            due("session " + set + " " + what, court.session(set, what), oracle.session(set, what));
        } else {
            int of = set != 0 && random.nextInt(8) > 0 ? Integer.numberOfTrailingZeros(Integer.highestOneBit(set)) : c;
            due("called " + set + " " + of, court.called(set, of), oracle.called(set, of));
        }
    }

    private void lists(int p, int q, int a) {
        int dice = random.nextInt(5), kind = some(0, 3), house = some(0, 7);
        if (dice == 0) {
            int what = some(0, 1);
            due("stood " + p + " " + q + " " + what, court.stood(p, q, what), oracle.stood(p, q, what));
        } else if (dice == 1) {
            int k = some(-1, 4);
            due("ring " + p + " " + k, court.ring(p, k), oracle.ring(p, k));
        } else if (dice == 2) {
            due("left " + p + " " + kind + " " + a, court.left(p, kind, a), oracle.left(p, kind, a));
        } else if (dice == 3) {
            due("forsaken " + house, court.forsaken(house, kind, a), oracle.forsaken(house, kind, a));
        } else {
            int what = some(0, 10);
            due("count " + what, court.count(what), oracle.count(what));
        }
    }
}
