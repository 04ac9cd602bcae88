/** A court where a charge is met by helpers who swear to a man's word. */
public final class SwornCourt {
    public static final int NONE = -1, UNKNOWN = -100001, OUTSIDE = -100002, NOT = -100003, FULL = -100004;

    private static final int LAST_DAY = 9000, FIRST_BIRTH = -9000, LAST_LAW_DAY = 9999, LONGEST_STRIDE = 1000;
    private static final int MOST_PERSONS = 30, MOST_RANKINGS = 60, MOST_FEUDS = 20, MOST_CHARGES = 20;
    private static final int MOST_OATHS = 100, MOST_EVENTS = MOST_OATHS + MOST_CHARGES, MOST_PAYMENTS = 60;
    private static final int MOST_COINS = 9999, MOST_BYTES = 240, MOST_PARTS = 8;
    private static final int HOUSES = 8, RANKS = 4, KINDS = 4, MOST_WILL = 4, FARTHEST_DEGREE = 8;
    private static final int MOST_IN_SESSION = 5, MOST_CALLABLE = 10, LEAST_BOUND = 100, MOST_BOUND = 3000;
    /** SETS that are ENOUGH never hold one another, and of ten members at most 252 such SETS can be made. */
    private static final int MOST_ENOUGH = 252;

    private static final int OPEN = 0, MET = 1, LOST = 2, FALLEN = 3;

    private static final int RULES = 11, FIGURES = 4;
    private static final int NEED = 0, COUNTS = 4, KIN = 8, HALF = 9, FEUD = 10, FALSE_DAYS = 11, LOST_DAYS = 12;
    private static final int AGE = 13, FINE = 14, SHORT = 18, OATH = 19, SLOTS = 20;

    private final People people;
    private final Feuds feuds;
    private final Kinship kinship;
    private final Laws laws;
    private final LawReader reader;
    private final Docket docket;
    private final Anew anew;
    private final Purse purse;
    private final Finding finding;
    private final Rings rings;
    private int now;

    public SwornCourt() {
        people = new People();
        feuds = new Feuds();
        kinship = new Kinship();
        laws = new Laws();
        reader = new LawReader();
        docket = new Docket();
        anew = new Anew(people, feuds, kinship, laws, docket);
        purse = new Purse();
        finding = new Finding(people, docket, anew);
        rings = new Rings();
        now = 0;
    }

    // ---- persons

    public int person(int born, int house, int rank, int father, int mother, int will) {
        if (!people.hasOrNone(father) || !people.hasOrNone(mother)) return UNKNOWN;
        if (!within(born, FIRST_BIRTH, now) || !isHouse(house) || !within(rank, 0, RANKS - 1)) return OUTSIDE;
        if (!within(will, 1, MOST_WILL) || (father == mother && father != NONE)) return OUTSIDE;
        if (people.size >= MOST_PERSONS) return FULL;
        int p = people.add(born, house, rank, father, mother, will);
        kinship.learn(p, father, mother);
        return p;
    }

    public int rank(int p, int rank) {
        if (!people.has(p)) return UNKNOWN;
        if (!within(rank, 0, RANKS - 1)) return OUTSIDE;
        if (people.rankings >= MOST_RANKINGS) return FULL;
        int before = people.rankOn(p, now);
        people.addRanking(p, rank, now);
        return before;
    }

    public int die(int p) {
        if (!people.has(p)) return UNKNOWN;
        if (people.death[p] != NONE) return NOT;
        people.death[p] = now;
        return 1;
    }

    public int feud(int a, int b) {
        if (!isHouse(a) || !isHouse(b) || a == b) return OUTSIDE;
        if (feuds.standing(a, b) != NONE) return NOT;
        if (feuds.size >= MOST_FEUDS) return FULL;
        feuds.add(a, b, now);
        return feuds.size;
    }

    public int peace(int a, int b) {
        if (!isHouse(a) || !isHouse(b) || a == b) return OUTSIDE;
        int f = feuds.standing(a, b);
        if (f == NONE) return NOT;
        feuds.ended[f] = now;
        return 1;
    }

    public int go(int n) {
        if (!within(n, 0, LONGEST_STRIDE)) return OUTSIDE;
        if (now + n > LAST_DAY) return NOT;
        now += n;
        return now;
    }

    public int told(int p, int day, int what) {
        if (!people.has(p)) return UNKNOWN;
        if (!isPast(day)) return OUTSIDE;
        switch (what) {
            case 0: return people.born[p];
            case 1: return people.house[p];
            case 2: return people.rankOn(p, day);
            case 3: return people.father[p];
            case 4: return people.mother[p];
            case 5: return people.will[p];
            case 6: return people.death[p];
            default: return OUTSIDE;
        }
    }

    public int kin(int a, int b, int what) {
        if (!people.has(a) || !people.has(b)) return UNKNOWN;
        if (!within(what, 0, 2)) return OUTSIDE;
        kinship.measure(a, b);
        if (what == 0) return kinship.degree;
        if (what == 1) return kinship.tie;
        return kinship.half ? 1 : 0;
    }

    // ---- the law

    public int feed(int n, long bytes) {
        if (!within(n, 1, 8)) return OUTSIDE;
        if (reader.length + n > MOST_BYTES) return FULL;
        reader.append(n, bytes);
        return reader.length;
    }

    public int read() {
        if (docket.charges > 0) return NOT;
        boolean sound = reader.parse();
        reader.length = 0;
        if (!sound) return -10 - reader.faultNumber;
        laws.takeFrom(reader.draft);
        return laws.parts;
    }

    public int fault() {
        return reader.faultByte;
    }

    public int law(int rule, int k, int day) {
        if (!within(rule, 0, RULES - 1) || !within(day, 0, LAST_LAW_DAY)) return OUTSIDE;
        if (!within(k, 0, Laws.isKeyed(rule) ? KINDS - 1 : 0)) return OUTSIDE;
        return laws.valueOf(laws.rowOn(day), Laws.slotOf(rule) + k);
    }

    // ---- charges and oaths

    public int charge(int kind, int accused, int accuser, int deed) {
        if (!people.has(accused) || !people.has(accuser)) return UNKNOWN;
        if (!isKind(kind) || accused == accuser || !isPast(deed)) return OUTSIDE;
        if (docket.charges >= MOST_CHARGES) return FULL;
        return docket.addCharge(kind, accused, accuser, deed, laws.rowOn(deed), now);
    }

    public int barred(int p, int c, int day, int known) {
        if (!people.has(p) || !docket.hasCharge(c)) return UNKNOWN;
        if (!isPast(day) || !isPast(known)) return OUTSIDE;
        anew.work(known);
        return anew.obstacle(p, c, day);
    }

    public int swear(int p, int c) {
        if (!people.has(p) || !docket.hasCharge(c)) return UNKNOWN;
        anew.work(now);
        if (!maySwear(p, c)) return NOT;
        if (docket.oaths >= MOST_OATHS) return FULL;
        int o = docket.addOath(p, c, now, anew.weightOf(p, docket.lawRow[c], now));
        anew.work(now);
        if (anew.lackOf(c) == 0) docket.metBy[c] = o;
        return anew.total[c];
    }

    public int close(int c) {
        if (!docket.hasCharge(c)) return UNKNOWN;
        anew.work(now);
        if (anew.state[c] != OPEN) return NOT;
        docket.addClosing(c, now);
        return anew.lackOf(c);
    }

    public int find(int c) {
        if (!docket.hasCharge(c)) return UNKNOWN;
        anew.work(now);
        if (anew.state[c] != MET || docket.foundOn[c] != NONE) return NOT;
        docket.foundOn[c] = now;
        return docket.oathsFor(c);
    }

    public int oath(int i, int what) {
        if (!within(what, 0, 3)) return OUTSIDE;
        if (!within(i, 0, docket.oaths - 1)) return NONE;
        if (what == 0) return docket.oathWho[i];
        if (what == 1) return docket.oathFor[i];
        if (what == 2) return docket.oathOn[i];
        anew.work(now);
        return anew.oathCounts[i];
    }

    public int state(int c, int known, int what) {
        if (!docket.hasCharge(c)) return UNKNOWN;
        if (!within(known, docket.toldOn[c], now) || !within(what, 0, 8)) return OUTSIDE;
        anew.work(known);
        switch (what) {
            case 0: return anew.state[c];
            case 1: return anew.decidedOn[c];
            case 2: return anew.total[c];
            case 3: return anew.lackOf(c);
            case 4: return docket.kind[c];
            case 5: return docket.accused[c];
            case 6: return docket.accuser[c];
            case 7: return docket.deed[c];
            default: return anew.needOf(c);
        }
    }

    public int turned(int a, int b) {
        if (!isPast(a) || !isPast(b)) return OUTSIDE;
        anew.work(a);
        anew.remember();
        anew.work(b);
        return anew.differing(Math.min(a, b));
    }

    // ---- fines

    public int pay(int p, int coins) {
        if (!people.has(p)) return UNKNOWN;
        if (!within(coins, 1, MOST_COINS)) return OUTSIDE;
        if (purse.size >= MOST_PAYMENTS) return FULL;
        purse.add(p, coins, now);
        anew.work(now);
        return debtOf(p);
    }

    public int owes(int p, int known, int what) {
        if (!people.has(p)) return UNKNOWN;
        if (!isPast(known) || !within(what, 0, 2)) return OUTSIDE;
        anew.work(known);
        if (what == 0) return anew.finesOf(p);
        if (what == 1) return purse.paidBy(p, known);
        return debtOf(p);
    }

    // ---- sessions

    public int bound(int v) {
        if (!within(v, LEAST_BOUND, MOST_BOUND)) return OUTSIDE;
        int before = finding.bound;
        finding.bound = v;
        return before;
    }

    public int session(int set, int what) {
        if (!docket.hasAll(set)) return UNKNOWN;
        if (!isSessionSize(set) || !within(what, 0, 3)) return OUTSIDE;
        anew.work(now);
        if (!anew.allOpen(set)) return NOT;
        finding.seekFor(set, now);
        switch (what) {
            case 0: return finding.bestMet;
            case 1: return finding.bestCalls;
            case 2: return finding.looks;
            default: return finding.spent ? 1 : 0;
        }
    }

    public int called(int set, int c) {
        if (!docket.hasAll(set) || !docket.hasCharge(c)) return UNKNOWN;
        if (!isSessionSize(set) || (set >>> c & 1) == 0) return OUTSIDE;
        anew.work(now);
        if (!anew.allOpen(set)) return NOT;
        finding.seekFor(set, now);
        return finding.calledFor(c);
    }

    public int lacks(int c) {
        if (!docket.hasCharge(c)) return UNKNOWN;
        anew.work(now);
        if (anew.state[c] != OPEN) return NOT;
        return Math.max(0, anew.lackOf(c) - anew.helpInSight(c, now));
    }

    // ---- lists

    public int stood(int a, int b, int what) {
        if (!people.has(a) || !people.has(b)) return UNKNOWN;
        if (!within(what, 0, 1)) return OUTSIDE;
        int given = docket.oathsOfFor(a, b);
        return what == 0 ? given : given - docket.oathsOfFor(b, a);
    }

    public int ring(int p, int k) {
        if (!people.has(p)) return UNKNOWN;
        rings.seek(p, docket, people.size);
        if (k == NONE) return rings.length;
        return within(k, 0, rings.length - 1) ? rings.row[k] : NONE;
    }

    public int left(int p, int kind, int day) {
        if (!people.has(p)) return UNKNOWN;
        if (!isKind(kind) || !isPast(day)) return OUTSIDE;
        anew.work(now);
        return anew.helpAgainst(p, laws.rowOn(day), day);
    }

    public int forsaken(int house, int kind, int day) {
        if (!isHouse(house) || !isKind(kind) || !isPast(day)) return OUTSIDE;
        anew.work(now);
        int row = laws.rowOn(day);
        int need = laws.valueOf(row, NEED + kind);
        int set = 0;
        for (int p = 0; p < people.size; p++) {
            boolean lives = people.house[p] == house && people.born[p] <= day && !people.isDead(p, day);
            if (lives && anew.helpAgainst(p, row, day) < need) set |= 1 << p;
        }
        return set;
    }

    public int count(int what) {
        if (!within(what, 0, 10)) return OUTSIDE;
        anew.work(now);
        switch (what) {
            case 0: return now;
            case 1: return people.size;
            case 2: return feuds.allStanding();
            case 3: return laws.parts;
            case 4: return docket.charges;
            case 9: return docket.oaths;
            case 10: return allDebts();
            default: return anew.chargesIn(what - 5);
        }
    }

    // ---- helpers of the calls

    private static boolean within(int v, int least, int most) {
        return v >= least && v <= most;
    }

    private static boolean isHouse(int house) {
        return within(house, 0, HOUSES - 1);
    }

    private static boolean isKind(int kind) {
        return within(kind, 0, KINDS - 1);
    }

    private static boolean isSessionSize(int set) {
        return within(Integer.bitCount(set), 1, MOST_IN_SESSION);
    }

    private boolean isPast(int day) {
        return within(day, 0, now);
    }

    private boolean maySwear(int p, int c) {
        if (anew.state[c] != OPEN || docket.hasSworn(p, c)) return false;
        if (docket.oathsOfOn(p, now) >= people.will[p]) return false;
        return anew.obstacle(p, c, now) == 0;
    }

    /** What a PERSON OWES as KNOWN by the day that was worked last. */
    private int debtOf(int p) {
        return anew.finesOf(p) - purse.paidBy(p, anew.worked);
    }

    private int allDebts() {
        int sum = 0;
        for (int p = 0; p < people.size; p++) sum += Math.max(0, debtOf(p));
        return sum;
    }

    // ---- what is held

    private static final class People {
        final int[] born = new int[MOST_PERSONS];
        final int[] house = new int[MOST_PERSONS];
        final int[] firstRank = new int[MOST_PERSONS];
        final int[] father = new int[MOST_PERSONS];
        final int[] mother = new int[MOST_PERSONS];
        final int[] will = new int[MOST_PERSONS];
        final int[] death = new int[MOST_PERSONS];
        final int[] rankedWho = new int[MOST_RANKINGS];
        final int[] rankedAs = new int[MOST_RANKINGS];
        final int[] rankedOn = new int[MOST_RANKINGS];
        int size;
        int rankings;

        boolean has(int p) {
            return p >= 0 && p < size;
        }

        boolean hasOrNone(int p) {
            return p == NONE || has(p);
        }

        int add(int birth, int ofHouse, int ofRank, int fatherIs, int motherIs, int ofWill) {
            int p = size;
            if (p >= MOST_PERSONS) return NONE;
            born[p] = birth;
            house[p] = ofHouse;
            firstRank[p] = ofRank;
            father[p] = fatherIs;
            mother[p] = motherIs;
            will[p] = ofWill;
            death[p] = NONE;
            size = p + 1;
            return p;
        }

        void addRanking(int p, int newRank, int day) {
            if (rankings >= MOST_RANKINGS) return;
            rankedWho[rankings] = p;
            rankedAs[rankings] = newRank;
            rankedOn[rankings] = day;
            rankings++;
        }

        int rankOn(int p, int day) {
            for (int i = rankings - 1; i >= 0; i--) {
                if (rankedWho[i] == p && rankedOn[i] <= day) return rankedAs[i];
            }
            return firstRank[p];
        }

        boolean isDead(int p, int day) {
            return death[p] != NONE && death[p] <= day;
        }
    }

    private static final class Feuds {
        final int[] oneHouse = new int[MOST_FEUDS];
        final int[] otherHouse = new int[MOST_FEUDS];
        final int[] begun = new int[MOST_FEUDS];
        final int[] ended = new int[MOST_FEUDS];
        int size;

        void add(int a, int b, int day) {
            if (size >= MOST_FEUDS) return;
            oneHouse[size] = a;
            otherHouse[size] = b;
            begun[size] = day;
            ended[size] = NONE;
            size++;
        }

        private boolean isOf(int f, int a, int b) {
            return (oneHouse[f] == a && otherHouse[f] == b) || (oneHouse[f] == b && otherHouse[f] == a);
        }

        /** The FEUD of two HOUSES that is not laid down. */
        int standing(int a, int b) {
            for (int f = 0; f < size; f++) {
                if (ended[f] == NONE && isOf(f, a, b)) return f;
            }
            return NONE;
        }

        int allStanding() {
            int n = 0;
            for (int f = 0; f < size; f++) {
                if (ended[f] == NONE) n++;
            }
            return n;
        }

        boolean holds(int a, int b, int day) {
            for (int f = 0; f < size; f++) {
                if (isOf(f, a, b) && begun[f] <= day && (ended[f] == NONE || day < ended[f])) return true;
            }
            return false;
        }
    }

    private static final class Kinship {
        /** At p * MOST_PERSONS + q: the fewest STEPS that lead from p up to q, or NONE. */
        final int[] steps = new int[MOST_PERSONS * MOST_PERSONS];
        int degree;
        int tie;
        boolean half;

        /** Parents are there ahead of their children, so their rows are ready. */
        void learn(int p, int father, int mother) {
            if (p < 0 || p >= MOST_PERSONS) return;
            for (int q = 0; q < MOST_PERSONS; q++) {
                int viaFather = stepsOf(father, q);
                int viaMother = stepsOf(mother, q);
                int nearest = viaFather;
                if (viaFather == NONE || (viaMother != NONE && viaMother < viaFather)) nearest = viaMother;
                steps[p * MOST_PERSONS + q] = nearest == NONE ? NONE : nearest + 1;
            }
            steps[p * MOST_PERSONS + p] = 0;
        }

        private int stepsOf(int p, int q) {
            if (p < 0 || p >= MOST_PERSONS || q < 0 || q >= MOST_PERSONS) return NONE;
            return steps[p * MOST_PERSONS + q];
        }

        /** Both are PERSONS; no PERSON has STEPS to one of a higher number. */
        void measure(int a, int b) {
            degree = NONE;
            tie = NONE;
            int givers = 0;
            for (int q = 0; q <= a && q <= b; q++) {
                int fromA = steps[a * MOST_PERSONS + q];
                int fromB = steps[b * MOST_PERSONS + q];
                if (fromA == NONE || fromB == NONE || fromA + fromB > FARTHEST_DEGREE) continue;
                if (degree == NONE || fromA + fromB < degree) {
                    degree = fromA + fromB;
                    tie = q;
                    givers = 1;
                } else if (fromA + fromB == degree) {
                    givers++;
                }
            }
            half = givers == 1 && tie != a && tie != b;
        }
    }

    /** Row 0 holds the rules as at first, row i what holds from the day of the i-th part on. */
    private static final class Laws {
        private static final int[] FIRST_SLOTS = {
            NEED, COUNTS, KIN, HALF, FEUD, FALSE_DAYS, LOST_DAYS, AGE, FINE, SHORT, OATH};
        private static final int[] AT_FIRST = {12, 12, 12, 12, 1, 1, 1, 1, 2, 0, 1, 0, 0, 0, 10, 10, 10, 10, 0, 0};

        final int[] from = new int[MOST_PARTS + 1];
        final int[] values = new int[(MOST_PARTS + 1) * SLOTS];
        int parts;

        Laws() {
            System.arraycopy(AT_FIRST, 0, values, 0, SLOTS);
        }

        static boolean isKeyed(int rule) {
            return rule == 0 || rule == 1 || rule == 8;
        }

        static int slotOf(int rule) {
            return rule >= 0 && rule < RULES ? FIRST_SLOTS[rule] : 0;
        }

        void startPart(int day) {
            if (parts >= MOST_PARTS) return;
            System.arraycopy(values, parts * SLOTS, values, (parts + 1) * SLOTS, SLOTS);
            parts++;
            from[parts] = day;
        }

        void say(int slot, int value) {
            if (slot >= 0 && slot < SLOTS) values[parts * SLOTS + slot] = value;
        }

        int rowOn(int day) {
            int row = 0;
            while (row < parts && from[row + 1] <= day) row++;
            return row;
        }

        int valueOf(int row, int slot) {
            if (row < 0 || row > MOST_PARTS || slot < 0 || slot >= SLOTS) return 0;
            return values[row * SLOTS + slot];
        }

        void takeFrom(Laws other) {
            if (other == null) return;
            System.arraycopy(other.from, 0, from, 0, MOST_PARTS + 1);
            System.arraycopy(other.values, 0, values, 0, (MOST_PARTS + 1) * SLOTS);
            parts = other.parts;
        }
    }

    /** Holds THE TEXT and reads it into a draft, so that a FAULT leaves THE LAW as it was. */
    private static final class LawReader {
        final int[] text = new int[MOST_BYTES];
        final Laws draft = new Laws();
        int length;
        int at;
        int faultNumber;
        int faultByte = NONE;

        void append(int n, long bytes) {
            for (int i = n - 1; i >= 0 && length < MOST_BYTES; i--) {
                text[length] = (int) (bytes >>> (8 * i) & 255);
                length++;
            }
        }

        boolean parse() {
            at = 0;
            faultNumber = 0;
            faultByte = NONE;
            draft.parts = 0;
            for (int i = 0; i <= MOST_PARTS; i++) {
                skipBlanks();
                if (at >= length && draft.parts > 0) return true;
                if (!parseHead() || !parseRules()) return false;
            }
            return false;
        }

        private boolean parseHead() {
            int start = at;
            int end = wordEnd(start);
            if (!isWord(start, end, "from")) return blame(1, start);
            if (draft.parts >= MOST_PARTS) return blame(4, start);
            at = end;
            skipBlanks();
            int dayAt = at;
            int day = parseNumber(LAST_LAW_DAY);
            if (day == NONE) return false;
            if (draft.parts > 0 && day <= draft.from[draft.parts]) return blame(3, dayAt);
            draft.startPart(day);
            return true;
        }

        private boolean parseRules() {
            for (int i = 0; i <= MOST_BYTES; i++) {
                skipBlanks();
                if (at < length && text[at] == ';') {
                    at++;
                    return true;
                }
                if (!parseRule()) return false;
            }
            return false;
        }

        private boolean parseRule() {
            int end = wordEnd(at);
            int rule = ruleNamed(at, end);
            if (rule == NONE) return blame(1, at);
            at = end;
            int key = Laws.isKeyed(rule) ? parseNumber(KINDS - 1) : 0;
            if (key == NONE) return false;
            int value = parseNumber(limitOf(rule));
            if (value == NONE) return false;
            draft.say(Laws.slotOf(rule) + key, value);
            return true;
        }

        private int parseNumber(int limit) {
            skipBlanks();
            int end = at;
            int value = 0;
            while (end < length && text[end] >= '0' && text[end] <= '9') {
                // figures beyond the fourth are a FAULT whatever they are, so they need not be summed
                if (end - at < FIGURES) value = value * 10 + text[end] - '0';
                end++;
            }
            if (end == at) {
                blame(1, at);
                return NONE;
            }
            if (end - at > FIGURES || value > limit) {
                blame(2, at);
                return NONE;
            }
            at = end;
            return value;
        }

        private boolean blame(int number, int where) {
            faultNumber = number;
            faultByte = where;
            return false;
        }

        private void skipBlanks() {
            while (at < length && text[at] == ' ') at++;
        }

        private int wordEnd(int start) {
            int end = start;
            while (end < length && text[end] >= 'a' && text[end] <= 'z') end++;
            return end;
        }

        private boolean isWord(int start, int end, String word) {
            if (start < 0 || end > length || end - start != word.length()) return false;
            for (int i = 0; i < word.length(); i++) {
                if (text[start + i] != word.charAt(i)) return false;
            }
            return true;
        }

        private int ruleNamed(int start, int end) {
            for (int rule = 0; rule < RULES; rule++) {
                if (isWord(start, end, nameOf(rule))) return rule;
            }
            return NONE;
        }

        private static String nameOf(int rule) {
            switch (rule) {
                case 0: return "need";
                case 1: return "count";
                case 2: return "kin";
                case 3: return "half";
                case 4: return "feud";
                case 5: return "false";
                case 6: return "lost";
                case 7: return "age";
                case 8: return "fine";
                case 9: return "short";
                default: return "oath";
            }
        }

        private static int limitOf(int rule) {
            if (rule <= 1) return 99;
            return rule == 3 || rule == 4 ? 1 : 9999;
        }
    }

    /** CHARGES, OATHS and closings as they were told. */
    private static final class Docket {
        final int[] kind = new int[MOST_CHARGES];
        final int[] accused = new int[MOST_CHARGES];
        final int[] accuser = new int[MOST_CHARGES];
        final int[] deed = new int[MOST_CHARGES];
        final int[] toldOn = new int[MOST_CHARGES];
        final int[] lawRow = new int[MOST_CHARGES];
        final int[] foundOn = new int[MOST_CHARGES];
        /** The oath with which the CHARGE was MET as KNOWN then: ANEW it is decided there, one way or the other. */
        final int[] metBy = new int[MOST_CHARGES];
        final int[] oathWho = new int[MOST_OATHS];
        final int[] oathFor = new int[MOST_OATHS];
        final int[] oathOn = new int[MOST_OATHS];
        final int[] oathWeight = new int[MOST_OATHS];
        /** In the order in which they were told: an oath by its number, the closing of CHARGE c as -1 - c. */
        final int[] eventIs = new int[MOST_EVENTS];
        final int[] eventOn = new int[MOST_EVENTS];
        int charges;
        int oaths;
        int events;

        boolean hasCharge(int c) {
            return c >= 0 && c < charges;
        }

        boolean hasAll(int set) {
            return set >>> charges == 0;
        }

        int addCharge(int ofKind, int against, int by, int onDeed, int row, int day) {
            int c = charges;
            if (c >= MOST_CHARGES) return NONE;
            kind[c] = ofKind;
            accused[c] = against;
            accuser[c] = by;
            deed[c] = onDeed;
            lawRow[c] = row;
            toldOn[c] = day;
            foundOn[c] = NONE;
            metBy[c] = NONE;
            charges = c + 1;
            return c;
        }

        int addOath(int p, int c, int day, int weight) {
            int o = oaths;
            if (o >= MOST_OATHS) return NONE;
            oathWho[o] = p;
            oathFor[o] = c;
            oathOn[o] = day;
            oathWeight[o] = weight;
            oaths = o + 1;
            addEvent(o, day);
            return o;
        }

        void addClosing(int c, int day) {
            addEvent(-1 - c, day);
        }

        private void addEvent(int what, int day) {
            if (events >= MOST_EVENTS) return;
            eventIs[events] = what;
            eventOn[events] = day;
            events++;
        }

        boolean hasSworn(int p, int c) {
            for (int o = 0; o < oaths; o++) {
                if (oathWho[o] == p && oathFor[o] == c) return true;
            }
            return false;
        }

        boolean isFound(int c, int known) {
            return foundOn[c] != NONE && foundOn[c] <= known;
        }

        int oathsFor(int c) {
            int n = 0;
            for (int o = 0; o < oaths; o++) {
                if (oathFor[o] == c) n++;
            }
            return n;
        }

        int oathsOfOn(int p, int day) {
            int n = 0;
            for (int o = 0; o < oaths; o++) {
                if (oathWho[o] == p && oathOn[o] == day) n++;
            }
            return n;
        }

        int oathsOfFor(int a, int b) {
            int n = 0;
            for (int o = 0; o < oaths; o++) {
                if (oathWho[o] == a && accused[oathFor[o]] == b) n++;
            }
            return n;
        }
    }

    /** All oaths and closings worked through again, with what is KNOWN by a day. */
    private static final class Anew {
        final People people;
        final Feuds feuds;
        final Kinship kinship;
        final Laws laws;
        final Docket docket;
        final int[] state = new int[MOST_CHARGES];
        final int[] decidedOn = new int[MOST_CHARGES];
        final int[] total = new int[MOST_CHARGES];
        final int[] oathCounts = new int[MOST_OATHS];
        final int[] remembered = new int[MOST_CHARGES];
        /** How many oaths were worked through so far: an oath is BARRED by those ahead of it alone. */
        int seen;
        int worked;

        Anew(People people, Feuds feuds, Kinship kinship, Laws laws, Docket docket) {
            this.people = people;
            this.feuds = feuds;
            this.kinship = kinship;
            this.laws = laws;
            this.docket = docket;
        }

        void work(int known) {
            for (int c = 0; c < docket.charges; c++) {
                state[c] = OPEN;
                decidedOn[c] = NONE;
                total[c] = 0;
            }
            seen = 0;
            worked = known;
            for (int e = 0; e < docket.events && docket.eventOn[e] <= known; e++) {
                int what = docket.eventIs[e];
                if (what >= 0) workOath(what);
                else decide(-1 - what, LOST, docket.eventOn[e]);
            }
        }

        /** DEATHS and FEUDS hold for the whole day of the oath, though they be told behind it. */
        private void workOath(int o) {
            int c = docket.oathFor[o];
            int day = docket.oathOn[o];
            oathCounts[o] = obstacle(docket.oathWho[o], c, day) == 0 ? docket.oathWeight[o] : 0;
            total[c] += oathCounts[o];
            seen = o + 1;
            if (lackOf(c) == 0) decide(c, MET, day);
            else if (docket.metBy[c] == o) decide(c, LOST, day);
        }

        private void decide(int c, int as, int day) {
            if (state[c] != OPEN) return;
            state[c] = docket.isFound(c, worked) ? FALLEN : as;
            decidedOn[c] = day;
        }

        void remember() {
            System.arraycopy(state, 0, remembered, 0, MOST_CHARGES);
        }

        /** Of the CHARGES told up to a day: how many have another STATE than the one that is remembered. */
        int differing(int lastTold) {
            int n = 0;
            for (int c = 0; c < docket.charges; c++) {
                if (docket.toldOn[c] <= lastTold && state[c] != remembered[c]) n++;
            }
            return n;
        }

        int needOf(int c) {
            return laws.valueOf(docket.lawRow[c], NEED + docket.kind[c]);
        }

        int lackOf(int c) {
            return Math.max(0, needOf(c) - total[c]);
        }

        int chargesIn(int as) {
            int n = 0;
            for (int c = 0; c < docket.charges; c++) {
                if (state[c] == as) n++;
            }
            return n;
        }

        boolean allOpen(int set) {
            for (int c = 0; c < docket.charges; c++) {
                if ((set >>> c & 1) == 1 && state[c] != OPEN) return false;
            }
            return true;
        }

        int weightOf(int p, int row, int day) {
            return laws.valueOf(row, COUNTS + people.rankOn(p, day));
        }

        /** How a PERSON is BARRED from a CHARGE on a day, by what was worked through so far. */
        int obstacle(int p, int c, int day) {
            return obstacleIn(p, docket.accused[c], docket.accuser[c], c, docket.lawRow[c], day);
        }

        private int obstacleIn(int p, int against, int by, int own, int row, int day) {
            if (people.isDead(p, day) || isTooYoung(p, row, day)) return 1;
            if (p == against || p == by) return 2;
            if (isTooNear(p, against, row)) return 3;
            if (laws.valueOf(row, FEUD) == 1 && feuds.holds(people.house[p], people.house[against], day)) return 4;
            if (sworeFalsely(p, own, row, day)) return 5;
            return lostLately(p, row, day) ? 6 : 0;
        }

        private boolean isTooYoung(int p, int row, int day) {
            int age = laws.valueOf(row, AGE);
            return age > 0 && day - people.born[p] < age;
        }

        private boolean isTooNear(int p, int against, int row) {
            kinship.measure(p, against);
            if (kinship.degree == NONE) return false;
            int more = kinship.half && laws.valueOf(row, HALF) == 1 ? 1 : 0;
            return kinship.degree + more <= laws.valueOf(row, KIN);
        }

        private boolean sworeFalsely(int p, int own, int row, int day) {
            int days = laws.valueOf(row, FALSE_DAYS);
            for (int o = 0; o < seen; o++) {
                int c = docket.oathFor[o];
                if (docket.oathWho[o] != p || c == own || !docket.isFound(c, worked)) continue;
                if (isLately(docket.oathOn[o], day, days)) return true;
            }
            return false;
        }

        private boolean lostLately(int p, int row, int day) {
            int days = laws.valueOf(row, LOST_DAYS);
            for (int c = 0; c < docket.charges; c++) {
                if (docket.accused[c] != p || state[c] < LOST) continue;
                if (isLately(decidedOn[c], day, days)) return true;
            }
            return false;
        }

        private static boolean isLately(int then, int day, int days) {
            return then <= day && day - then < days;
        }

        int helpInSight(int c, int day) {
            int sum = 0;
            for (int p = 0; p < people.size; p++) {
                boolean free = !docket.hasSworn(p, c) && obstacle(p, c, day) == 0;
                if (free) sum += weightOf(p, docket.lawRow[c], day);
            }
            return sum;
        }

        /** LEFT: without an ACCUSER, and every CHARGE that is told is another one. */
        int helpAgainst(int against, int row, int day) {
            int sum = 0;
            for (int p = 0; p < people.size; p++) {
                if (obstacleIn(p, against, NONE, NONE, row, day) == 0) sum += weightOf(p, row, day);
            }
            return sum;
        }

        int finesOf(int p) {
            int sum = 0;
            for (int c = 0; c < docket.charges; c++) {
                if (docket.accused[c] != p || state[c] < LOST) continue;
                int row = docket.lawRow[c];
                sum += laws.valueOf(row, FINE + docket.kind[c]) + laws.valueOf(row, SHORT) * lackOf(c);
            }
            for (int o = 0; o < seen; o++) {
                int c = docket.oathFor[o];
                if (docket.oathWho[o] == p && state[c] == FALLEN) sum += laws.valueOf(docket.lawRow[c], OATH);
            }
            return sum;
        }
    }

    private static final class Purse {
        final int[] payer = new int[MOST_PAYMENTS];
        final int[] paid = new int[MOST_PAYMENTS];
        final int[] paidOn = new int[MOST_PAYMENTS];
        int size;

        void add(int p, int coins, int day) {
            if (size >= MOST_PAYMENTS) return;
            payer[size] = p;
            paid[size] = coins;
            paidOn[size] = day;
            size++;
        }

        int paidBy(int p, int known) {
            int sum = 0;
            for (int i = 0; i < size; i++) {
                if (payer[i] == p && paidOn[i] <= known) sum += paid[i];
            }
            return sum;
        }
    }

    /** THE FINDING of a SESSION. SETS of PERSONS are kept as such: they rise as the SETS of CALLABLE ones do. */
    private static final class Finding {
        final People people;
        final Docket docket;
        final Anew anew;
        final int[] charges = new int[MOST_IN_SESSION];
        final int[] enoughSize = new int[MOST_IN_SESSION];
        final int[] enough = new int[MOST_IN_SESSION * MOST_ENOUGH];
        final int[] callable = new int[MOST_CALLABLE];
        final int[] weight = new int[MOST_CALLABLE];
        /** How many more SETS of the way a PERSON may be in. */
        final int[] room = new int[MOST_PERSONS];
        final int[] way = new int[MOST_IN_SESSION];
        final int[] best = new int[MOST_IN_SESSION];
        int size;
        /** The PERSONS without room, as a SET. */
        int busy;
        int bound = 1000;
        int looks;
        boolean spent;
        int bestMet;
        int bestCalls;

        Finding(People people, Docket docket, Anew anew) {
            this.people = people;
            this.docket = docket;
            this.anew = anew;
        }

        void seekFor(int set, int day) {
            size = 0;
            for (int c = 0; c < docket.charges && size < MOST_IN_SESSION; c++) {
                if ((set >>> c & 1) == 0) continue;
                charges[size] = c;
                way[size] = NONE;
                best[size] = NONE;
                gatherEnough(size, gatherCallable(c, day), anew.lackOf(c));
                size++;
            }
            measureRoom(day);
            looks = 0;
            spent = false;
            bestMet = NONE;
            bestCalls = 0;
            descend(this, 0);
        }

        int calledFor(int c) {
            for (int j = 0; j < size; j++) {
                if (charges[j] == c) return best[j] == NONE ? 0 : best[j];
            }
            return 0;
        }

        private void measureRoom(int day) {
            busy = 0;
            for (int p = 0; p < people.size; p++) {
                room[p] = people.will[p] - docket.oathsOfOn(p, day);
                if (room[p] <= 0) busy |= 1 << p;
            }
        }

        private void gatherEnough(int j, int n, int lack) {
            enoughSize[j] = 0;
            for (int set = 0; set < 1 << n; set++) {
                int sum = 0;
                int least = 0;
                int persons = 0;
                for (int k = 0; k < n; k++) {
                    if ((set >>> k & 1) == 0) continue;
                    least = persons == 0 ? weight[k] : Math.min(least, weight[k]);
                    sum += weight[k];
                    persons |= 1 << callable[k];
                }
                if (sum >= lack && (set == 0 || sum - least < lack)) addEnough(j, persons);
            }
        }

        private int gatherCallable(int c, int day) {
            int n = 0;
            for (int p = 0; p < people.size && n < MOST_CALLABLE; p++) {
                if (docket.hasSworn(p, c) || anew.obstacle(p, c, day) != 0) continue;
                callable[n] = p;
                weight[n] = anew.weightOf(p, docket.lawRow[c], day);
                n++;
            }
            return n;
        }

        private void addEnough(int j, int persons) {
            if (enoughSize[j] >= MOST_ENOUGH) return;
            enough[j * MOST_ENOUGH + enoughSize[j]] = persons;
            enoughSize[j]++;
        }

        /** The depth is the number of CHARGES gone through, MOST_IN_SESSION at most. */
        private static void descend(Finding f, int depth) {
            if (depth >= f.size || depth >= MOST_IN_SESSION) {
                f.compare();
                return;
            }
            for (int i = 0; i < f.enoughSize[depth]; i++) {
                int persons = f.enough[depth * MOST_ENOUGH + i];
                if ((persons & f.busy) != 0) continue;
                if (f.looks >= f.bound) {
                    f.spent = true;
                    f.compare();
                    return;
                }
                f.looks++;
                f.take(depth, persons);
                descend(f, depth + 1);
                f.giveBack(depth, persons);
                if (f.spent) return;
            }
            descend(f, depth + 1);
        }

        private void take(int depth, int persons) {
            way[depth] = persons;
            for (int p = 0; p < people.size; p++) {
                if ((persons >>> p & 1) == 0) continue;
                room[p]--;
                if (room[p] <= 0) busy |= 1 << p;
            }
        }

        private void giveBack(int depth, int persons) {
            way[depth] = NONE;
            for (int p = 0; p < people.size; p++) {
                if ((persons >>> p & 1) == 1) room[p]++;
            }
            busy &= ~persons;
        }

        /** Ways come in their order, so of like ones the first is kept. */
        private void compare() {
            int met = 0;
            int calls = 0;
            for (int j = 0; j < size; j++) {
                if (way[j] == NONE) continue;
                met++;
                calls += Integer.bitCount(way[j]);
            }
            if (met < bestMet || (met == bestMet && calls >= bestCalls)) return;
            bestMet = met;
            bestCalls = calls;
            System.arraycopy(way, 0, best, 0, MOST_IN_SESSION);
        }
    }

    private static final class Rings {
        final int[] stoodFor = new int[MOST_PERSONS];
        /** How many PERSONS further on in a row the one stands with which the ring begins. */
        final int[] distance = new int[MOST_PERSONS];
        final int[] row = new int[MOST_PERSONS];
        int length;

        void seek(int p, Docket docket, int persons) {
            gather(docket, persons);
            measure(p, persons);
            length = 0;
            int next = nearest(p, p, persons);
            if (next == NONE) return;
            row[0] = p;
            length = 1;
            // the nearest ones lead to p with fewer and fewer steps, so the row ends at p
            while (next != p && length < MOST_PERSONS) {
                row[length] = next;
                length++;
                next = distance[next] == 1 ? p : nearest(next, p, persons);
                if (next == NONE) return;
            }
        }

        private void gather(Docket docket, int persons) {
            for (int a = 0; a < persons; a++) stoodFor[a] = 0;
            for (int o = 0; o < docket.oaths; o++) {
                stoodFor[docket.oathWho[o]] |= 1 << docket.accused[docket.oathFor[o]];
            }
        }

        private void measure(int p, int persons) {
            for (int a = 0; a < persons; a++) distance[a] = a == p ? 0 : NONE;
            for (int far = 1; far < persons; far++) {
                int nearer = 0;
                for (int a = 0; a < persons; a++) {
                    if (distance[a] == far - 1) nearer |= 1 << a;
                }
                for (int a = 0; a < persons; a++) {
                    if (distance[a] == NONE && (stoodFor[a] & nearer) != 0) distance[a] = far;
                }
            }
        }

        /** Of those for whom a STOOD the one nearest to p, of several the first; p itself does not count. */
        private int nearest(int a, int p, int persons) {
            int found = NONE;
            for (int b = 0; b < persons; b++) {
                if (b == p || (stoodFor[a] >>> b & 1) == 0 || distance[b] == NONE) continue;
                if (found == NONE || distance[b] < distance[found]) found = b;
            }
            return found;
        }
    }
}
