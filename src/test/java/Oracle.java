import java.util.ArrayDeque;
import java.util.ArrayList;
import java.util.HashMap;
import java.util.List;
import java.util.Map;
import java.util.TreeSet;

/** The document told once more, slowly and with the Java library, to hold SwornCourt against. */
final class Oracle {
    static final int NONE = -1, UNKNOWN = -100001, OUTSIDE = -100002, NOT = -100003, FULL = -100004;

    private static final class Person {
        int born, house, rank, father, mother, will;
        int dead = Integer.MAX_VALUE;
    }

    private static final class Charge {
        int number, kind, accused, accuser, deed, told;
        int found = Integer.MAX_VALUE;
        Oath metBy;
    }

    private static final class Oath {
        int number, who, day, weight;
        Charge of;
    }

    /** An oath, or the closing of a CHARGE. */
    private static final class Event {
        int day;
        Oath oath;
        Charge closed;
    }

    private static final class Part {
        int day;
        final Map<String, Integer> said = new HashMap<>();
    }

    /** What is KNOWN by a day. */
    private static final class World {
        int day;
        final Map<Charge, Integer> state = new HashMap<>();
        final Map<Charge, Integer> decided = new HashMap<>();
        final Map<Charge, Integer> sum = new HashMap<>();
        final Map<Oath, Integer> counts = new HashMap<>();
        final List<Oath> oaths = new ArrayList<>();
    }

    private final List<Person> persons = new ArrayList<>();
    private final List<int[]> rankings = new ArrayList<>();
    private final List<int[]> feuds = new ArrayList<>();
    private final List<Charge> charges = new ArrayList<>();
    private final List<Oath> oaths = new ArrayList<>();
    private final List<Event> events = new ArrayList<>();
    private final List<int[]> payments = new ArrayList<>();
    private List<Part> parts = new ArrayList<>();
    private String text = "";
    private int faultAt = NONE;
    private int now = 0;
    private int bound = 1000;

    private boolean isPerson(int p) {
        return p >= 0 && p < persons.size();
    }

    private boolean isCharge(int c) {
        return c >= 0 && c < charges.size();
    }

    private static boolean in(int v, int a, int b) {
        return a <= v && v <= b;
    }

    int person(int born, int house, int rank, int father, int mother, int will) {
        if (father != NONE && !isPerson(father) || mother != NONE && !isPerson(mother)) return UNKNOWN;
        boolean fits = in(born, -9000, now) && in(house, 0, 7) && in(rank, 0, 3) && in(will, 1, 4);
        if (!fits || father == mother && father != NONE) return OUTSIDE;
        if (persons.size() == 30) return FULL;
        Person p = new Person();
        p.born = born;
        p.house = house;
        p.rank = rank;
        p.father = father;
        p.mother = mother;
        p.will = will;
        persons.add(p);
        return persons.size() - 1;
    }

    private int rankAt(int p, int day) {
        int rank = persons.get(p).rank;
        for (int[] r : rankings) if (r[0] == p && r[1] <= day) rank = r[2];
        return rank;
    }

    int rank(int p, int rank) {
        if (!isPerson(p)) return UNKNOWN;
        if (!in(rank, 0, 3)) return OUTSIDE;
        if (rankings.size() == 60) return FULL;
        int was = rankAt(p, now);
        rankings.add(new int[] {p, now, rank});
        return was;
    }

    int die(int p) {
        if (!isPerson(p)) return UNKNOWN;
        if (persons.get(p).dead <= now) return NOT;
        persons.get(p).dead = now;
        return 1;
    }

    private boolean feudOn(int a, int b, int day) {
        for (int[] f : feuds) {
            boolean theirs = f[0] == a && f[1] == b || f[0] == b && f[1] == a;
            if (theirs && f[2] <= day && day < f[3]) return true;
        }
        return false;
    }

    int feud(int a, int b) {
        if (!in(a, 0, 7) || !in(b, 0, 7) || a == b) return OUTSIDE;
        if (feudOn(a, b, now)) return NOT;
        if (feuds.size() == 20) return FULL;
        feuds.add(new int[] {a, b, now, Integer.MAX_VALUE});
        return feuds.size();
    }

    int peace(int a, int b) {
        if (!in(a, 0, 7) || !in(b, 0, 7) || a == b) return OUTSIDE;
        if (!feudOn(a, b, now)) return NOT;
        for (int[] f : feuds) {
            boolean theirs = f[0] == a && f[1] == b || f[0] == b && f[1] == a;
            if (theirs && f[3] == Integer.MAX_VALUE) f[3] = now;
        }
        return 1;
    }

    int go(int n) {
        if (!in(n, 0, 1000)) return OUTSIDE;
        if (now + n > 9000) return NOT;
        return now += n;
    }

    int told(int p, int day, int what) {
        if (!isPerson(p)) return UNKNOWN;
        if (!in(day, 0, now) || !in(what, 0, 6)) return OUTSIDE;
        Person x = persons.get(p);
        int dead = x.dead == Integer.MAX_VALUE ? NONE : x.dead;
        return new int[] {x.born, x.house, rankAt(p, day), x.father, x.mother, x.will, dead}[what];
    }

    private Map<Integer, Integer> forebears(int p) {
        Map<Integer, Integer> steps = new HashMap<>();
        ArrayDeque<int[]> open = new ArrayDeque<>();
        open.add(new int[] {p, 0});
        while (!open.isEmpty()) {
            int[] at = open.poll();
            if (at[0] == NONE || steps.containsKey(at[0])) continue;
            steps.put(at[0], at[1]);
            open.add(new int[] {persons.get(at[0]).father, at[1] + 1});
            open.add(new int[] {persons.get(at[0]).mother, at[1] + 1});
        }
        return steps;
    }

    int kin(int a, int b, int what) {
        if (!isPerson(a) || !isPerson(b)) return UNKNOWN;
        if (!in(what, 0, 2)) return OUTSIDE;
        Map<Integer, Integer> ofA = forebears(a), ofB = forebears(b);
        TreeSet<Integer> givers = new TreeSet<>();
        int least = 9;
        for (int q : ofA.keySet()) {
            if (!ofB.containsKey(q)) continue;
            int degree = ofA.get(q) + ofB.get(q);
            if (degree < least) givers.clear();
            least = Math.min(least, degree);
            if (degree == least && degree < 9) givers.add(q);
        }
        if (givers.isEmpty()) return what == 2 ? 0 : NONE;
        int tie = givers.first();
        boolean half = givers.size() == 1 && tie != a && tie != b;
        return new int[] {least, tie, half ? 1 : 0}[what];
    }

    int feed(int n, long bytes) {
        if (!in(n, 1, 8)) return OUTSIDE;
        if (text.length() + n > 240) return FULL;
        StringBuilder more = new StringBuilder();
        for (int i = 0; i < n; i++) more.insert(0, (char) (bytes >> 8 * i & 255));
        text += more;
        return text.length();
    }

    private static final class Fault extends Exception {
        private static final long serialVersionUID = 1L;
        final int number, at;

        Fault(int number, int at) {
            this.number = number;
            this.at = at;
        }
    }

    /** A run of letters, a run of figures, or one other sign; its first byte. */
    private static final class Token {
        String word;
        int at;
    }

    private static List<Token> tokens(String text) {
        List<Token> all = new ArrayList<>();
        java.util.regex.Matcher m = java.util.regex.Pattern.compile("[a-z]+|[0-9]+|[^ ]", java.util.regex.Pattern.DOTALL)
            .matcher(text);
        while (m.find()) {
            Token t = new Token();
            t.word = m.group();
            t.at = m.start();
            all.add(t);
        }
        Token end = new Token();
        end.word = "";
        end.at = text.length();
        all.add(end);
        return all;
    }

    private static int number(Token t, int limit) throws Fault {
        if (!t.word.matches("[0-9]+")) throw new Fault(1, t.at);
        if (t.word.length() > 4 || Integer.parseInt(t.word) > limit) throw new Fault(2, t.at);
        return Integer.parseInt(t.word);
    }

    private static List<Part> parse(String text) throws Fault {
        List<Part> all = new ArrayList<>();
        List<Token> tokens = tokens(text);
        int i = 0;
        while (i == 0 || !tokens.get(i).word.isEmpty()) {
            Token from = tokens.get(i++);
            if (!from.word.equals("from")) throw new Fault(1, from.at);
            if (all.size() == 8) throw new Fault(4, from.at);
            Token day = tokens.get(i++);
            Part part = new Part();
            part.day = number(day, 9999);
            if (!all.isEmpty() && all.get(all.size() - 1).day >= part.day) throw new Fault(3, day.at);
            all.add(part);
            while (!tokens.get(i).word.equals(";")) {
                Token rule = tokens.get(i++);
                String name = rule.word;
                if (!name.matches("need|count|kin|half|feud|false|lost|age|fine|short|oath")) throw new Fault(1, rule.at);
                if (name.matches("need|count|fine")) name += number(tokens.get(i++), 3);
                int limit = name.matches("half|feud") ? 1 : name.matches("(need|count).") ? 99 : 9999;
                part.said.put(name, number(tokens.get(i++), limit));
            }
            i++;
        }
        return all;
    }

    int read() {
        if (!charges.isEmpty()) return NOT;
        String it = text;
        text = "";
        faultAt = NONE;
        try {
            parts = parse(it);
            return parts.size();
        } catch (Fault f) {
            faultAt = f.at;
            return -10 - f.number;
        }
    }

    int fault() {
        return faultAt;
    }

    private int rule(String name, int day) {
        int v = name.startsWith("need") ? 12 : name.startsWith("count") ? 1 : name.startsWith("fine") ? 10 : 0;
        if (name.equals("kin")) v = 2;
        if (name.equals("feud")) v = 1;
        for (Part part : parts) if (part.day <= day && part.said.containsKey(name)) v = part.said.get(name);
        return v;
    }

    int law(int rule, int k, int day) {
        if (!in(rule, 0, 10) || !in(day, 0, 9999)) return OUTSIDE;
        boolean keyed = rule == 0 || rule == 1 || rule == 8;
        if (!in(k, 0, keyed ? 3 : 0)) return OUTSIDE;
        String[] names = {"need", "count", "kin", "half", "feud", "false", "lost", "age", "fine", "short", "oath"};
        return rule(keyed ? names[rule] + k : names[rule], day);
    }

    int charge(int kind, int accused, int accuser, int deed) {
        if (!isPerson(accused) || !isPerson(accuser)) return UNKNOWN;
        if (!in(kind, 0, 3) || accused == accuser || !in(deed, 0, now)) return OUTSIDE;
        if (charges.size() == 20) return FULL;
        Charge c = new Charge();
        c.number = charges.size();
        c.kind = kind;
        c.accused = accused;
        c.accuser = accuser;
        c.deed = deed;
        c.told = now;
        charges.add(c);
        return c.number;
    }

    private int bar(World w, int p, Charge c, int day) {
        Person x = persons.get(p), accused = persons.get(c.accused);
        int age = rule("age", c.deed);
        if (x.dead <= day || age != 0 && day - x.born < age) return 1;
        if (p == c.accused || p == c.accuser) return 2;
        int degree = kin(p, c.accused, 0);
        if (degree != NONE && rule("half", c.deed) == 1) degree += kin(p, c.accused, 2);
        if (degree != NONE && degree <= rule("kin", c.deed)) return 3;
        if (rule("feud", c.deed) == 1 && feudOn(x.house, accused.house, day)) return 4;
        for (Oath o : w.oaths) {
            boolean isFalse = o.who == p && o.of != c && o.of.found <= w.day;
            if (isFalse && o.day <= day && day < o.day + rule("false", c.deed)) return 5;
        }
        for (Charge d : charges) {
            if (d.accused != p || w.state.get(d) < 2) continue;
            int then = w.decided.get(d);
            if (then <= day && day < then + rule("lost", c.deed)) return 6;
        }
        return 0;
    }

    private int need(Charge c) {
        return rule("need" + c.kind, c.deed);
    }

    private World known(int day) {
        World w = new World();
        w.day = day;
        for (Charge c : charges) {
            w.state.put(c, 0);
            w.decided.put(c, NONE);
            w.sum.put(c, 0);
        }
        for (Event e : events) {
            if (e.day > day) continue;
            Charge c = e.closed == null ? e.oath.of : e.closed;
            int becomes = e.closed == null ? 0 : 2;
            if (e.oath != null) {
                int counts = bar(w, e.oath.who, c, e.day) == 0 ? e.oath.weight : 0;
                w.counts.put(e.oath, counts);
                w.sum.merge(c, counts, Integer::sum);
                w.oaths.add(e.oath);
                if (c.metBy == e.oath) becomes = 2;
                if (w.sum.get(c) >= need(c)) becomes = 1;
            }
            if (w.state.get(c) != 0 || becomes == 0) continue;
            w.state.put(c, c.found <= day ? 3 : becomes);
            w.decided.put(c, e.day);
        }
        return w;
    }

    private int lack(World w, Charge c) {
        return Math.max(0, need(c) - w.sum.get(c));
    }

    int barred(int p, int c, int day, int known) {
        if (!isPerson(p) || !isCharge(c)) return UNKNOWN;
        if (!in(day, 0, now) || !in(known, 0, now)) return OUTSIDE;
        return bar(known(known), p, charges.get(c), day);
    }

    private boolean swore(int p, Charge c) {
        return oaths.stream().anyMatch(o -> o.who == p && o.of == c);
    }

    private int today(int p) {
        return (int) oaths.stream().filter(o -> o.who == p && o.day == now).count();
    }

    private int weight(int p, Charge c, int day) {
        return rule("count" + rankAt(p, day), c.deed);
    }

    int swear(int p, int number) {
        if (!isPerson(p) || !isCharge(number)) return UNKNOWN;
        Charge c = charges.get(number);
        World w = known(now);
        if (w.state.get(c) != 0 || bar(w, p, c, now) != 0 || swore(p, c)) return NOT;
        if (today(p) >= persons.get(p).will) return NOT;
        if (oaths.size() == 100) return FULL;
        Oath o = new Oath();
        o.number = oaths.size();
        o.who = p;
        o.of = c;
        o.day = now;
        o.weight = weight(p, c, now);
        oaths.add(o);
        Event e = new Event();
        e.day = now;
        e.oath = o;
        events.add(e);
        int sum = known(now).sum.get(c);
        if (sum >= need(c)) c.metBy = o;
        return sum;
    }

    int close(int number) {
        if (!isCharge(number)) return UNKNOWN;
        Charge c = charges.get(number);
        World w = known(now);
        if (w.state.get(c) != 0) return NOT;
        Event e = new Event();
        e.day = now;
        e.closed = c;
        events.add(e);
        return lack(w, c);
    }

    int find(int number) {
        if (!isCharge(number)) return UNKNOWN;
        Charge c = charges.get(number);
        if (known(now).state.get(c) != 1) return NOT;
        c.found = now;
        return (int) oaths.stream().filter(o -> o.of == c).count();
    }

    int oath(int i, int what) {
        if (!in(what, 0, 3)) return OUTSIDE;
        if (!in(i, 0, oaths.size() - 1)) return NONE;
        Oath o = oaths.get(i);
        return new int[] {o.who, o.of.number, o.day, known(now).counts.get(o)}[what];
    }

    int state(int number, int known, int what) {
        if (!isCharge(number)) return UNKNOWN;
        Charge c = charges.get(number);
        if (!in(known, c.told, now) || !in(what, 0, 8)) return OUTSIDE;
        World w = known(known);
        return new int[] {w.state.get(c), w.decided.get(c), w.sum.get(c), lack(w, c), c.kind, c.accused, c.accuser, c.deed,
            need(c)}[what];
    }

    int turned(int a, int b) {
        if (!in(a, 0, now) || !in(b, 0, now)) return OUTSIDE;
        World one = known(a), other = known(b);
        int n = 0;
        for (Charge c : charges) {
            if (c.told <= a && c.told <= b && !one.state.get(c).equals(other.state.get(c))) n++;
        }
        return n;
    }

    private int fines(int p, int day) {
        World w = known(day);
        int sum = 0;
        for (Charge c : charges) {
            if (c.accused != p || w.state.get(c) < 2) continue;
            sum += rule("fine" + c.kind, c.deed) + rule("short", c.deed) * lack(w, c);
        }
        for (Oath o : oaths) if (o.who == p && o.day <= day && w.state.get(o.of) == 3) sum += rule("oath", o.of.deed);
        return sum;
    }

    private int paid(int p, int day) {
        return payments.stream().filter(x -> x[0] == p && x[2] <= day).mapToInt(x -> x[1]).sum();
    }

    int pay(int p, int coins) {
        if (!isPerson(p)) return UNKNOWN;
        if (!in(coins, 1, 9999)) return OUTSIDE;
        if (payments.size() == 60) return FULL;
        payments.add(new int[] {p, coins, now});
        return fines(p, now) - paid(p, now);
    }

    int owes(int p, int known, int what) {
        if (!isPerson(p)) return UNKNOWN;
        if (!in(known, 0, now) || !in(what, 0, 2)) return OUTSIDE;
        return new int[] {fines(p, known), paid(p, known), fines(p, known) - paid(p, known)}[what];
    }

    int bound(int v) {
        if (!in(v, 100, 3000)) return OUTSIDE;
        int was = bound;
        bound = v;
        return was;
    }

    private final class Search {
        final List<Charge> of = new ArrayList<>();
        final List<List<Integer>> sets = new ArrayList<>();
        int[] way, best;
        int looks;
        boolean spent;

        void seek(int at) {
            weigh();
            if (at == of.size()) return;
            for (int set : sets.get(at)) {
                if (!willing(set, at)) continue;
                if (looks == bound) spent = true;
                if (spent) return;
                looks++;
                way[at] = set;
                seek(at + 1);
                way[at] = NONE;
                if (spent) return;
            }
            seek(at + 1);
        }

        boolean willing(int set, int at) {
            for (int p = 0; p < persons.size(); p++) {
                if ((set >> p & 1) == 0) continue;
                int n = 1 + today(p);
                for (int j = 0; j < at; j++) if (way[j] != NONE && (way[j] >> p & 1) == 1) n++;
                if (n > persons.get(p).will) return false;
            }
            return true;
        }

        int met(int[] some) {
            int n = 0;
            for (int set : some) if (set != NONE) n++;
            return n;
        }

        int calls(int[] some) {
            int n = 0;
            for (int set : some) if (set != NONE) n += Integer.bitCount(set);
            return n;
        }

        void weigh() {
            if (best == null || met(way) > met(best) || met(way) == met(best) && calls(way) < calls(best)) best = way.clone();
        }
    }

    private int refusal(int set) {
        for (int c = 0; c < 32; c++) if ((set >> c & 1) == 1 && c >= charges.size()) return UNKNOWN;
        return in(Integer.bitCount(set), 1, 5) ? 0 : OUTSIDE;
    }

    private Search search(int set) {
        World w = known(now);
        Search s = new Search();
        for (Charge c : charges) {
            if ((set >> c.number & 1) == 0) continue;
            if (w.state.get(c) != 0) return null;
            s.of.add(c);
            List<Integer> callable = new ArrayList<>();
            for (int p = 0; p < persons.size() && callable.size() < 10; p++) {
                if (bar(w, p, c, now) == 0 && !swore(p, c)) callable.add(p);
            }
            s.sets.add(enough(c, callable, lack(w, c)));
        }
        s.way = new int[s.of.size()];
        java.util.Arrays.fill(s.way, NONE);
        s.seek(0);
        return s;
    }

    private List<Integer> enough(Charge c, List<Integer> callable, int lack) {
        List<Integer> sets = new ArrayList<>();
        for (int bits = 0; bits < 1 << callable.size(); bits++) {
            int sum = 0, persons = 0;
            for (int k = 0; k < callable.size(); k++) {
                if ((bits >> k & 1) == 0) continue;
                sum += weight(callable.get(k), c, now);
                persons += 1 << callable.get(k);
            }
            boolean isEnough = sum >= lack;
            for (int k = 0; k < callable.size(); k++) {
                if ((bits >> k & 1) == 1 && sum - weight(callable.get(k), c, now) >= lack) isEnough = false;
            }
            if (isEnough) sets.add(persons);
        }
        return sets;
    }

    int session(int set, int what) {
        if (refusal(set) == UNKNOWN) return UNKNOWN;
        if (refusal(set) != 0 || !in(what, 0, 3)) return OUTSIDE;
        Search s = search(set);
        if (s == null) return NOT;
        return new int[] {s.met(s.best), s.calls(s.best), s.looks, s.spent ? 1 : 0}[what];
    }

    int called(int set, int c) {
        if (refusal(set) == UNKNOWN || !isCharge(c)) return UNKNOWN;
        if (refusal(set) != 0 || (set >> c & 1) == 0) return OUTSIDE;
        Search s = search(set);
        if (s == null) return NOT;
        return Math.max(0, s.best[s.of.indexOf(charges.get(c))]);
    }

    int lacks(int number) {
        if (!isCharge(number)) return UNKNOWN;
        Charge c = charges.get(number);
        World w = known(now);
        if (w.state.get(c) != 0) return NOT;
        int sum = lack(w, c);
        for (int p = 0; p < persons.size(); p++) if (bar(w, p, c, now) == 0 && !swore(p, c)) sum -= weight(p, c, now);
        return Math.max(0, sum);
    }

    private int stands(int a, int b) {
        return (int) oaths.stream().filter(o -> o.who == a && o.of.accused == b).count();
    }

    int stood(int a, int b, int what) {
        if (!isPerson(a) || !isPerson(b)) return UNKNOWN;
        if (!in(what, 0, 1)) return OUTSIDE;
        return stands(a, b) - what * stands(b, a);
    }

    private List<Integer> ringOf(int p) {
        ArrayDeque<List<Integer>> rows = new ArrayDeque<>();
        TreeSet<Integer> seen = new TreeSet<>();
        rows.add(List.of(p));
        while (!rows.isEmpty()) {
            List<Integer> row = rows.poll();
            int last = row.get(row.size() - 1);
            if (row.size() > 1 && stands(last, p) > 0) return row;
            for (int next = 0; next < persons.size(); next++) {
                if (next == p || stands(last, next) == 0 || !seen.add(next)) continue;
                List<Integer> longer = new ArrayList<>(row);
                longer.add(next);
                rows.add(longer);
            }
        }
        return List.of();
    }

    int ring(int p, int k) {
        if (!isPerson(p)) return UNKNOWN;
        List<Integer> row = ringOf(p);
        if (k == NONE) return row.size();
        return in(k, 0, row.size() - 1) ? row.get(k) : NONE;
    }

    private int leftFor(World w, int p, int day) {
        Charge c = new Charge();
        c.accused = p;
        c.accuser = NONE;
        c.deed = day;
        int sum = 0;
        for (int q = 0; q < persons.size(); q++) if (bar(w, q, c, day) == 0) sum += weight(q, c, day);
        return sum;
    }

    int left(int p, int kind, int day) {
        if (!isPerson(p)) return UNKNOWN;
        if (!in(kind, 0, 3) || !in(day, 0, now)) return OUTSIDE;
        return leftFor(known(now), p, day);
    }

    int forsaken(int house, int kind, int day) {
        if (!in(house, 0, 7) || !in(kind, 0, 3) || !in(day, 0, now)) return OUTSIDE;
        World w = known(now);
        int set = 0;
        for (int p = 0; p < persons.size(); p++) {
            Person x = persons.get(p);
            boolean lives = x.house == house && x.born <= day && day < x.dead;
            if (lives && leftFor(w, p, day) < rule("need" + kind, day)) set += 1 << p;
        }
        return set;
    }

    int count(int what) {
        if (!in(what, 0, 10)) return OUTSIDE;
        World w = known(now);
        int[] states = new int[4];
        for (Charge c : charges) states[w.state.get(c)]++;
        int hold = 0, owed = 0;
        for (int[] f : feuds) if (f[3] == Integer.MAX_VALUE) hold++;
        for (int p = 0; p < persons.size(); p++) owed += Math.max(0, fines(p, now) - paid(p, now));
        return new int[] {now, persons.size(), hold, parts.size(), charges.size(), states[0], states[1], states[2], states[3],
            oaths.size(), owed}[what];
    }
}
