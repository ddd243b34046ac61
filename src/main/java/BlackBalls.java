import java.util.Arrays;

/**
 * Black balls: MEMBERS at a box, CANDIDATES, RULES as texts, and how likely it is that somebody is let in.
 * The words in capitals are those of the document.
 */
public final class BlackBalls {
    public static final int NONE = -1, UNKNOWN = -101, OUTSIDE = -102, STATE = -103, FULL = -104;

    private static final int MOST_MEMBERS = 8;
    private static final int MOST_CANDIDATES = 6;
    private static final int MOST_RULES = 6;
    private static final int MOST_BALLS = MOST_MEMBERS;
    private static final int MOST_EVENINGS = 8;
    private static final int MOST_VETOES = 3;
    private static final int MOST_YEARS = 60;

    private static final int KIND_MEMBER = 0;
    private static final int KIND_FEARED = 1;
    private static final int KIND_MISTAKEN = 2;
    private static final int KIND_VENGEFUL = 3;
    private static final int KIND_TRADED = 4;

    private static final int TENTHS = 10;
    private static final int MINDS_MUCH = 5;
    private static final int MINDED_FROM = 2;
    private static final int CROWD = 4;

    private final Page page;
    private final Rule[] rules;
    private final Person[] people;
    private final int[] friends;
    private final Tally tally;
    private final Turnout turnout;
    private final Ballot ballot;
    private final Club club;
    private final long[] vetoRow;
    private int ruleCount;
    private int peopleCount;
    private int candidateCount;
    private boolean imageKept;

    public BlackBalls() {
        page = new Page();
        rules = new Rule[MOST_RULES];
        people = new Person[MOST_MEMBERS];
        friends = new int[MOST_CANDIDATES];
        tally = new Tally();
        turnout = new Turnout();
        ballot = new Ballot();
        club = new Club();
        vetoRow = new long[MOST_VETOES + 1];
    }

    // ---- rules

    public int letters(long w) {
        return page.write(w);
    }

    public int blank() {
        return page.wipe();
    }

    public int fault() {
        return page.firstFault();
    }

    public int rule() {
        if (!page.isRule()) {
            return STATE;
        }
        if (ruleCount >= MOST_RULES) {
            return FULL;
        }
        rules[ruleCount] = page.toRule();
        page.wipe();
        ruleCount++;
        return ruleCount - 1;
    }

    public int ruleTold(int rule, int what) {
        Rule r = ruleAt(rule);
        if (r == null) {
            return UNKNOWN;
        }
        if (!within(what, 0, 4)) {
            return OUTSIDE;
        }
        return r.told(what);
    }

    // ---- members, candidates

    public int member(int kind, int n, int comes) {
        if (!within(kind, KIND_MEMBER, KIND_TRADED)) {
            return OUTSIDE;
        }
        if (kind >= KIND_VENGEFUL && personAt(n) == null) {
            return UNKNOWN;
        }
        if (kind < KIND_VENGEFUL && !within(n, 0, kind == KIND_MISTAKEN ? 5 : 0)) {
            return OUTSIDE;
        }
        if (!within(comes, 0, TENTHS)) {
            return OUTSIDE;
        }
        if (peopleCount >= MOST_MEMBERS) {
            return FULL;
        }
        people[peopleCount] = newPerson(kind, n, comes);
        peopleCount++;
        return peopleCount - 1;
    }

    public int as(int member, int kind) {
        Person p = personAt(member);
        if (p == null) {
            return UNKNOWN;
        }
        if (!within(kind, KIND_MEMBER, KIND_TRADED)) {
            return OUTSIDE;
        }
        return isSuch(p, kind) ? p.number : NONE;
    }

    public int about(int member, int what) {
        Person p = personAt(member);
        if (p == null) {
            return UNKNOWN;
        }
        switch (what) {
            case 0:
                return p.kind();
            case 1:
                return p.n();
            case 2:
                return p.comesTenths;
            default:
                return OUTSIDE;
        }
    }

    public int comes(int member, int v) {
        Person p = personAt(member);
        if (p == null) {
            return UNKNOWN;
        }
        if (!within(v, 0, TENTHS)) {
            return OUTSIDE;
        }
        int was = p.comesTenths;
        p.comesTenths = v;
        return was;
    }

    public int candidate(int friend) {
        if (personAt(friend) == null) {
            return UNKNOWN;
        }
        if (candidateCount >= MOST_CANDIDATES) {
            return FULL;
        }
        friends[candidateCount] = friend;
        candidateCount++;
        return candidateCount - 1;
    }

    public int minds(int member, int candidate, int v) {
        Person p = personAt(member);
        if (p == null || !isCandidate(candidate)) {
            return UNKNOWN;
        }
        if (!within(v, NONE, TENTHS)) {
            return OUTSIDE;
        }
        int was = p.mindsOf(candidate);
        if (v != NONE) {
            p.mindFrom(candidate, v);
        }
        return was;
    }

    public int friend(int candidate, int what) {
        if (!isCandidate(candidate)) {
            return UNKNOWN;
        }
        switch (what) {
            case 0:
                return friendOf(candidate);
            case 1:
                return isMinded(candidate) ? 1 : 0;
            case 2:
                return howManyMindMuch(candidate);
            default:
                return OUTSIDE;
        }
    }

    // ---- an evening

    public int black(int rule, int candidate, int comers, int member) {
        Rule r = ruleAt(rule);
        Person p = personAt(member);
        if (r == null || p == null || !isCandidate(candidate)) {
            return UNKNOWN;
        }
        if (!areComers(comers) || !isOneOf(comers, member)) {
            return OUTSIDE;
        }
        return blackOf(p, candidate, isWatched(r, comers));
    }

    public int balls(int rule, int candidate, int comers, int k, int part) {
        Rule r = ruleAt(rule);
        if (r == null || !isCandidate(candidate)) {
            return UNKNOWN;
        }
        if (!areComers(comers) || !within(k, 0, MOST_BALLS) || !isPart(part)) {
            return OUTSIDE;
        }
        tallyBalls(candidate, comers, isWatched(r, comers));
        return (int) lowest(tally.waysTo(k), tally.all(), part);
    }

    public long in(int rule, int candidate, int comers, int part) {
        Rule r = ruleAt(rule);
        if (r == null || !isCandidate(candidate)) {
            return UNKNOWN;
        }
        if (!areComers(comers) || !isPart(part)) {
            return OUTSIDE;
        }
        return lowest(inWays(r, candidate, comers), squaredTens(comers), part);
    }

    public long large(int rule, int candidate, int part) {
        Rule r = ruleAt(rule);
        if (r == null || !isCandidate(candidate)) {
            return UNKNOWN;
        }
        if (!isPart(part)) {
            return OUTSIDE;
        }
        if (r.twice) {
            return STATE;
        }
        boolean watched = isWatched(r, everybody());
        turnout.begin();
        for (int i = 0; i < peopleCount; i++) {
            turnout.mayCome(people[i].comesTenths, blackOf(people[i], candidate, watched));
        }
        return lowest(turnout.waysIn(r), turnout.all(), part);
    }

    public long wrong(int rule, int comers) {
        Rule r = ruleAt(rule);
        if (r == null) {
            return UNKNOWN;
        }
        if (!areComers(comers)) {
            return OUTSIDE;
        }
        return wrongWays(r, comers);
    }

    public int best(int comers) {
        if (!areComers(comers)) {
            return OUTSIDE;
        }
        int least = NONE;
        long leastWrong = 0;
        for (int i = 0; i < ruleCount; i++) {
            long wrongHere = wrongWays(rules[i], comers);
            if (least == NONE || wrongHere < leastWrong) {
                least = i;
                leastWrong = wrongHere;
            }
        }
        return least;
    }

    public int who(int rule, int candidate, int comers, int member, int k, int part) {
        Rule r = ruleAt(rule);
        Person p = personAt(member);
        if (r == null || p == null || !isCandidate(candidate)) {
            return UNKNOWN;
        }
        if (!areComers(comers) || !isOneOf(comers, member) || !within(k, NONE, MOST_BALLS) || !isPart(part)) {
            return OUTSIDE;
        }
        boolean watched = isWatched(r, comers);
        int own = blackOf(p, candidate, watched);
        int came = Integer.bitCount(comers);
        tallyBalls(candidate, comers & ~(1 << member), watched);
        long ownBlack = 0;
        long ownWhite = 0;
        for (int counted = 0; counted <= came; counted++) {
            if (k == NONE ? r.shutsOut(counted, came) : counted == k) {
                ownBlack += own * tally.waysTo(counted - 1);
                ownWhite += (TENTHS - own) * tally.waysTo(counted);
            }
        }
        return (int) lowest(ownBlack, ownBlack + ownWhite, part);
    }

    public int heard(int rule, int candidate, int comers, int member, int right, boolean black, int part) {
        Rule r = ruleAt(rule);
        Person p = personAt(member);
        if (r == null || p == null || !isCandidate(candidate)) {
            return UNKNOWN;
        }
        if (!areComers(comers) || !isOneOf(comers, member) || !within(right, 0, TENTHS) || !isPart(part)) {
            return OUTSIDE;
        }
        int own = blackOf(p, candidate, isWatched(r, comers));
        int heardIfBlack = black ? right : TENTHS - right;
        int didAndHeard = own * heardIfBlack;
        int didNotAndHeard = (TENTHS - own) * (TENTHS - heardIfBlack);
        return (int) lowest(didAndHeard, didAndHeard + didNotAndHeard, part);
    }

    public int sway(int rule, int candidate, int comers) {
        Rule r = ruleAt(rule);
        if (r == null || !isCandidate(candidate)) {
            return UNKNOWN;
        }
        if (!areComers(comers)) {
            return OUTSIDE;
        }
        long withAll = inWays(r, candidate, comers);
        int most = NONE;
        long mostSway = NONE;
        for (int i = 0; i < peopleCount; i++) {
            if (isOneOf(comers, i)) {
                // One COMER fewer makes the squared power of ten a hundredth.
                long without = 100 * inWays(r, candidate, comers & ~(1 << i));
                long swayHere = Math.abs(withAll - without);
                if (swayHere > mostSway) {
                    most = i;
                    mostSway = swayHere;
                }
            }
        }
        return most;
    }

    public int word(int rule, int comers, int tenths) {
        Rule r = ruleAt(rule);
        if (r == null) {
            return UNKNOWN;
        }
        if (!areComers(comers) || !within(tenths, 0, TENTHS)) {
            return OUTSIDE;
        }
        int withdrawn = 0;
        for (int c = 0; c < candidateCount; c++) {
            if (withdraws(inWays(r, c, comers), comers, tenths)) {
                withdrawn |= 1 << c;
            }
        }
        return withdrawn;
    }

    public long seen(int rule, int comers, int tenths, int part) {
        Rule r = ruleAt(rule);
        if (r == null) {
            return UNKNOWN;
        }
        if (!areComers(comers) || !within(tenths, 0, TENTHS) || !isPart(part)) {
            return OUTSIDE;
        }
        long keptOut = 0;
        for (int c = 0; c < candidateCount; c++) {
            long ways = inWays(r, c, comers);
            if (!withdraws(ways, comers, tenths)) {
                keptOut += squaredTens(comers) - ways;
            }
        }
        return lowest(keptOut, squaredTens(comers), part);
    }

    public int evening(int rule, int candidate, int comers, int seed, int what) {
        Rule r = ruleAt(rule);
        if (r == null || !isCandidate(candidate)) {
            return UNKNOWN;
        }
        if (!areComers(comers) || seed < 0 || !within(what, 0, 2)) {
            return OUTSIDE;
        }
        boolean watched = isWatched(r, comers);
        ballot.begin();
        for (int i = 0; i < peopleCount; i++) {
            if (isOneOf(comers, i)) {
                ballot.seat(blackOf(people[i], candidate, watched));
            }
        }
        ballot.hold(r, seed);
        switch (what) {
            case 0:
                return ballot.lastBlacks;
            case 1:
                return ballot.letIn ? 1 : 0;
            default:
                return ballot.seed;
        }
    }

    // ---- games, years

    public int trade(int rule, int x, int y, int a, int b) {
        Rule r = ruleAt(rule);
        Person px = personAt(x);
        Person py = personAt(y);
        if (r == null || px == null || py == null || x == y) {
            return UNKNOWN;
        }
        if (!isCandidate(a) || !isCandidate(b) || a == b) {
            return UNKNOWN;
        }
        int aIn = letInByOneBall(r, a, x, y);
        int bIn = letInByOneBall(r, b, x, y);
        int resting = 0;
        for (int way = 0; way < 4; way++) {
            boolean xRests = gain(px, a, aIn, b, bIn, way) >= gain(px, a, aIn, b, bIn, way ^ 1);
            boolean yRests = gain(py, a, aIn, b, bIn, way) >= gain(py, a, aIn, b, bIn, way ^ 2);
            if (xRests && yRests) {
                resting |= 1 << way;
            }
        }
        return resting;
    }

    public int veto(int n, int v, int x) {
        if (!within(n, 1, MOST_EVENINGS) || !within(v, 0, MOST_VETOES) || !within(x, 0, TENTHS)) {
            return OUTSIDE;
        }
        if (v == 0) {
            return 0;
        }
        long all = expectVetoes(n - 1);
        return x * all + vetoRow[v - 1] > vetoRow[v] ? 1 : 0;
    }

    public long worth(int n, int v, int part) {
        if (!within(n, 1, MOST_EVENINGS) || !within(v, 0, MOST_VETOES) || !isPart(part)) {
            return OUTSIDE;
        }
        long all = expectVetoes(n);
        return lowest(vetoRow[v], all, part);
    }

    public int years(int rule, int years, int seed, int what) {
        Rule r = ruleAt(rule);
        if (r == null) {
            return UNKNOWN;
        }
        if (!within(years, 0, MOST_YEARS) || seed < 0 || !within(what, 0, 3)) {
            return OUTSIDE;
        }
        club.found(seed);
        for (int i = 0; i < years; i++) {
            club.passYear(r);
        }
        switch (what) {
            case 0:
                return club.size;
            case 1:
                return club.unlikeTastes();
            case 2:
                return club.letIn;
            default:
                return club.seed;
        }
    }

    public int lot(int candidate, int part) {
        if (!isCandidate(candidate)) {
            return UNKNOWN;
        }
        if (!isPart(part)) {
            return OUTSIDE;
        }
        if (isMinded(candidate)) {
            return part;
        }
        return part == 0 ? 1 : candidateCount - howManyMinded();
    }

    // ---- what is told of all

    public int image() {
        for (int i = 0; i < peopleCount; i++) {
            people[i].keep(candidateCount);
        }
        imageKept = true;
        return peopleCount;
    }

    public int restore() {
        if (!imageKept) {
            return STATE;
        }
        for (int i = 0; i < peopleCount; i++) {
            people[i].takeBack();
        }
        return peopleCount;
    }

    public int count(int what) {
        switch (what) {
            case 0:
                return peopleCount;
            case 1:
                return candidateCount;
            case 2:
                return ruleCount;
            case 3:
                return page.length;
            case 4:
                return howManyMinded();
            default:
                return OUTSIDE;
        }
    }

    public long digest() {
        long h = 487;
        h = digestRules(h);
        h = digestPeople(h);
        h = digestCandidates(h);
        h = digestIn(h);
        h = page.digestLetters(h);
        for (int what = 0; what <= 4; what++) {
            h = mix(h, count(what));
        }
        return h;
    }

    // ---- numbers that name something

    private Rule ruleAt(int i) {
        return i >= 0 && i < ruleCount ? rules[i] : null;
    }

    private Person personAt(int i) {
        return i >= 0 && i < peopleCount ? people[i] : null;
    }

    private boolean isCandidate(int i) {
        return i >= 0 && i < candidateCount;
    }

    private int friendOf(int candidate) {
        return isCandidate(candidate) ? friends[candidate] : NONE;
    }

    private int everybody() {
        return (1 << peopleCount) - 1;
    }

    private boolean areComers(int comers) {
        return comers > 0 && comers <= everybody();
    }

    private static boolean isOneOf(int comers, int member) {
        return member >= 0 && member < MOST_MEMBERS && (comers >> member & 1) == 1;
    }

    private static boolean isPart(int part) {
        return part == 0 || part == 1;
    }

    private static boolean within(int v, int least, int most) {
        return v >= least && v <= most;
    }

    // ---- kinds

    private Person newPerson(int kind, int n, int comes) {
        switch (kind) {
            case KIND_FEARED:
                return new Feared(peopleCount, comes);
            case KIND_MISTAKEN:
                return new Mistaken(peopleCount, comes, n);
            case KIND_VENGEFUL:
                return new Vengeful(peopleCount, comes, n);
            case KIND_TRADED:
                return new Traded(peopleCount, comes, n);
            default:
                return new Person(peopleCount, comes);
        }
    }

    private static boolean isSuch(Person p, int kind) {
        switch (kind) {
            case KIND_FEARED:
                return p instanceof Feared;
            case KIND_MISTAKEN:
                return p instanceof Mistaken;
            case KIND_VENGEFUL:
                return p instanceof Vengeful;
            case KIND_TRADED:
                return p instanceof Traded;
            default:
                return true;
        }
    }

    // ---- who is minded

    private int howManyMindMuch(int candidate) {
        int many = 0;
        for (int i = 0; i < peopleCount; i++) {
            if (people[i].mindsMuch(candidate)) {
                many++;
            }
        }
        return many;
    }

    private boolean isMinded(int candidate) {
        return howManyMindMuch(candidate) >= MINDED_FROM;
    }

    private int howManyMinded() {
        int many = 0;
        for (int c = 0; c < candidateCount; c++) {
            if (isMinded(c)) {
                many++;
            }
        }
        return many;
    }

    // ---- a round

    /** Whether a FEARED must fear to be known by its ball. */
    private static boolean isWatched(Rule r, int comers) {
        return r.countTold || Integer.bitCount(comers) < CROWD;
    }

    private int blackOf(Person p, int candidate, boolean watched) {
        return p.blackFor(candidate, friendOf(candidate), watched);
    }

    private void tallyBalls(int candidate, int putters, boolean watched) {
        tally.begin();
        for (int i = 0; i < peopleCount; i++) {
            if (isOneOf(putters, i)) {
                tally.put(blackOf(people[i], candidate, watched));
            }
        }
    }

    /** IN, by 10 to the number of COMERS, squared: squared, since a RULE may be TWICE. */
    private long inWays(Rule r, int candidate, int comers) {
        int came = Integer.bitCount(comers);
        if (!r.hasQuorum(came)) {
            return 0;
        }
        tallyBalls(candidate, comers, isWatched(r, comers));
        long all = tally.all();
        long out = 0;
        for (int k = 0; k <= came; k++) {
            if (r.shutsOut(k, came)) {
                out += tally.waysTo(k);
            }
        }
        return r.twice ? all * all - out * out : (all - out) * all;
    }

    private static long squaredTens(int comers) {
        long tens = power(TENTHS, Integer.bitCount(comers));
        return tens * tens;
    }

    private long wrongWays(Rule r, int comers) {
        long all = squaredTens(comers);
        long sum = 0;
        for (int c = 0; c < candidateCount; c++) {
            long ways = inWays(r, c, comers);
            sum += isMinded(c) ? ways : all - ways;
        }
        return sum;
    }

    private static boolean withdraws(long ways, int comers, int tenths) {
        return ways * TENTHS < tenths * squaredTens(comers);
    }

    // ---- a trade, a veto

    /** Bit 0: LET IN, if the one of x and y who is free to choose puts a white ball; bit 1: if a black one. */
    private int letInByOneBall(Rule r, int candidate, int x, int y) {
        int others = 0;
        for (int i = 0; i < peopleCount; i++) {
            if (i != x && i != y && people[i].mindsMuch(candidate)) {
                others++;
            }
        }
        int ifWhite = r.letsIn(others, peopleCount) ? 1 : 0;
        int ifBlack = r.letsIn(others + 1, peopleCount) ? 2 : 0;
        return ifWhite | ifBlack;
    }

    private static int gain(Person p, int a, int aIn, int b, int bIn, int way) {
        int xBlack = way & 1;
        int yBlack = way >> 1 & 1;
        int fromA = (aIn >> yBlack & 1) * (MINDS_MUCH - p.mindsOf(a));
        int fromB = (bIn >> xBlack & 1) * (MINDS_MUCH - p.mindsOf(b));
        return fromA + fromB;
    }

    /** Fills vetoRow with what each number of VETOES is worth, by 11 to the number of evenings, and tells that power. */
    private long expectVetoes(int evenings) {
        Arrays.fill(vetoRow, 0);
        long all = 1;
        for (int i = 0; i < evenings; i++) {
            // Downwards, as each worth needs the one of a VETO fewer from the evening ahead.
            for (int v = MOST_VETOES; v >= 1; v--) {
                long sum = 0;
                for (int x = 0; x <= TENTHS; x++) {
                    sum += Math.max(x * all + vetoRow[v - 1], vetoRow[v]);
                }
                vetoRow[v] = sum;
            }
            all *= TENTHS + 1;
        }
        return all;
    }

    // ---- digest

    private long digestRules(long start) {
        long h = start;
        for (int i = 0; i < ruleCount; i++) {
            for (int what = 0; what <= 4; what++) {
                h = mix(h, rules[i].told(what));
            }
        }
        return h;
    }

    private long digestPeople(long start) {
        long h = start;
        for (int i = 0; i < peopleCount; i++) {
            for (int what = 0; what <= 2; what++) {
                h = mix(h, about(i, what));
            }
            for (int c = 0; c < candidateCount; c++) {
                h = mix(h, people[i].mindsOf(c));
            }
        }
        return h;
    }

    private long digestCandidates(long start) {
        long h = start;
        for (int c = 0; c < candidateCount; c++) {
            for (int what = 0; what <= 2; what++) {
                h = mix(h, friend(c, what));
            }
        }
        return h;
    }

    private long digestIn(long start) {
        long h = start;
        long all = squaredTens(everybody());
        for (int i = 0; i < ruleCount; i++) {
            for (int c = 0; c < candidateCount; c++) {
                long ways = inWays(rules[i], c, everybody());
                h = mix(h, lowest(ways, all, 0));
                h = mix(h, lowest(ways, all, 1));
            }
        }
        return h;
    }

    private static long mix(long h, long v) {
        return 31 * h + v;
    }

    // ---- arithmetic

    private static long power(long base, int exponent) {
        long p = 1;
        for (int i = 0; i < exponent; i++) {
            p *= base;
        }
        return p;
    }

    private static long commonDivisor(long a, long b) {
        long larger = a;
        long smaller = b;
        // Euclid needs fewer than 100 steps for longs.
        for (int i = 0; i < 1000 && smaller != 0; i++) {
            long rest = larger % smaller;
            larger = smaller;
            smaller = rest;
        }
        return larger;
    }

    /** NONE: 0 of 0, as what is asked of cannot be. */
    private static long lowest(long above, long below, int part) {
        long divisor = commonDivisor(above, below);
        if (divisor == 0) {
            return NONE;
        }
        return (part == 0 ? above : below) / divisor;
    }

    /** THE PAGE. */
    private static final class Page {
        private static final int MOST_LETTERS = 20;
        private static final int HIGHEST_CODE = 126;

        // What is due next, behind the letters ahead.
        private static final int DUE_HEAD = 0;
        private static final int DUE_BLACKS = 1;
        private static final int DUE_RATIO = 2;
        private static final int DUE_TEEN = 3;
        private static final int DUE_TWENTY_OR_Q = 4;
        private static final int DUE_Q = 5;
        private static final int DUE_QUORUM = 6;
        private static final int DUE_TWICE_OR_COUNT = 7;
        private static final int DUE_COUNT = 8;
        private static final int DUE_NOTHING = 9;

        private final int[] codes = new int[MOST_LETTERS];
        private int length;

        int write(long w) {
            int more = howManyLetters(w);
            if (more == NONE) {
                return OUTSIDE;
            }
            if (length + more > MOST_LETTERS) {
                return FULL;
            }
            for (int i = 0; i < more; i++) {
                codes[length + i] = codeIn(w, i);
            }
            length += more;
            return length;
        }

        int wipe() {
            int had = length;
            length = 0;
            return had;
        }

        int firstFault() {
            int due = DUE_HEAD;
            for (int i = 0; i < length; i++) {
                due = dueBehind(due, codes[i]);
                if (due == NONE) {
                    return i;
                }
            }
            return length;
        }

        /** Just the last letter of a RULE is a c or a y, so one without a fault that ends so is whole. */
        boolean isRule() {
            return length > 0 && isCount(codes[length - 1]) && firstFault() == length;
        }

        Rule toRule() {
            int q = 1;
            int size = 0;
            while (q < length && codes[q] != 'q') {
                size = 10 * size + codes[q] - '0';
                q++;
            }
            boolean byBlacks = codeAt(0) == 'b';
            int quorum = codeAt(q + 1) - '0';
            boolean twice = codeAt(q + 2) == 't';
            boolean countTold = codeAt(length - 1) == 'c';
            return new Rule(byBlacks ? size : 0, byBlacks ? 0 : size, quorum, twice, countTold);
        }

        long digestLetters(long start) {
            long h = start;
            for (int i = 0; i < length; i++) {
                h = mix(h, codes[i]);
            }
            return h;
        }

        private int codeAt(int i) {
            return i >= 0 && i < length ? codes[i] : 0;
        }

        private static int codeIn(long w, int i) {
            return (int) (w >>> 8 * i & 255);
        }

        private static int howManyLetters(long w) {
            int many = 0;
            for (int i = 0; i < 8; i++) {
                int code = codeIn(w, i);
                if (code > HIGHEST_CODE || code != 0 && many < i) {
                    return NONE;
                }
                if (code != 0) {
                    many++;
                }
            }
            return many;
        }

        private static int dueBehind(int due, int code) {
            switch (due) {
                case DUE_HEAD:
                    return code == 'b' ? DUE_BLACKS : code == 'r' ? DUE_RATIO : NONE;
                case DUE_BLACKS:
                    return within(code, '1', '8') ? DUE_Q : NONE;
                case DUE_RATIO:
                    return code == '1' ? DUE_TEEN : code == '2' ? DUE_TWENTY_OR_Q : within(code, '3', '9') ? DUE_Q : NONE;
                case DUE_TEEN:
                    return within(code, '0', '9') ? DUE_Q : NONE;
                case DUE_TWENTY_OR_Q:
                    return code == '0' ? DUE_Q : code == 'q' ? DUE_QUORUM : NONE;
                case DUE_Q:
                    return code == 'q' ? DUE_QUORUM : NONE;
                case DUE_QUORUM:
                    return within(code, '0', '8') ? DUE_TWICE_OR_COUNT : NONE;
                case DUE_TWICE_OR_COUNT:
                    return code == 't' ? DUE_COUNT : isCount(code) ? DUE_NOTHING : NONE;
                case DUE_COUNT:
                    return isCount(code) ? DUE_NOTHING : NONE;
                default:
                    return NONE;
            }
        }

        private static boolean isCount(int code) {
            return code == 'c' || code == 'y';
        }
    }

    /** A RULE. */
    private static final class Rule {
        private final int blacks;
        private final int ratio;
        private final int quorum;
        private final boolean twice;
        private final boolean countTold;

        Rule(int blacks, int ratio, int quorum, boolean twice, boolean countTold) {
            this.blacks = blacks;
            this.ratio = ratio;
            this.quorum = quorum;
            this.twice = twice;
            this.countTold = countTold;
        }

        int told(int what) {
            switch (what) {
                case 0:
                    return blacks;
                case 1:
                    return ratio;
                case 2:
                    return quorum;
                case 3:
                    return twice ? 1 : 0;
                default:
                    return countTold ? 1 : 0;
            }
        }

        /** By nobody nobody is LET IN, whatever QUORUM is. */
        boolean hasQuorum(int came) {
            return came > 0 && came >= quorum;
        }

        boolean shutsOut(int blackOnes, int came) {
            return ratio > 0 ? ratio * blackOnes >= came : blackOnes >= blacks;
        }

        boolean letsIn(int blackOnes, int came) {
            return hasQuorum(came) && !shutsOut(blackOnes, came);
        }
    }

    /** A MEMBER of the first KIND, and what all KINDS share. */
    private static class Person {
        private final int number;
        private final int[] mindsEach = new int[MOST_CANDIDATES];
        private final int[] keptMinds = new int[MOST_CANDIDATES];
        private int comesTenths;
        private int keptComes = NONE;
        private int keptCandidates;

        Person(int number, int comesTenths) {
            this.number = number;
            this.comesTenths = comesTenths;
        }

        int kind() {
            return KIND_MEMBER;
        }

        int n() {
            return 0;
        }

        /** BLACK of one who is not the FRIEND. */
        int blackOfStranger(int minded, int friend, boolean watched) {
            return minded;
        }

        final int blackFor(int candidate, int friend, boolean watched) {
            return friend == number ? 0 : blackOfStranger(mindsOf(candidate), friend, watched);
        }

        final int mindsOf(int candidate) {
            return candidate >= 0 && candidate < MOST_CANDIDATES ? mindsEach[candidate] : 0;
        }

        final boolean mindsMuch(int candidate) {
            return mindsOf(candidate) >= MINDS_MUCH;
        }

        final void mindFrom(int candidate, int v) {
            if (candidate >= 0 && candidate < MOST_CANDIDATES) {
                mindsEach[candidate] = v;
            }
        }

        final void keep(int candidates) {
            keptComes = comesTenths;
            keptCandidates = Math.min(candidates, MOST_CANDIDATES);
            System.arraycopy(mindsEach, 0, keptMinds, 0, keptCandidates);
        }

        /** Nothing comes back to one that came behind the IMAGE, nor for CANDIDATES that did. */
        final void takeBack() {
            if (keptComes != NONE) {
                comesTenths = keptComes;
                System.arraycopy(keptMinds, 0, mindsEach, 0, keptCandidates);
            }
        }
    }

    private static final class Feared extends Person {
        Feared(int number, int comesTenths) {
            super(number, comesTenths);
        }

        int kind() {
            return KIND_FEARED;
        }

        int blackOfStranger(int minded, int friend, boolean watched) {
            return watched ? minded / 2 : minded;
        }
    }

    private static final class Mistaken extends Person {
        private final int slips;

        Mistaken(int number, int comesTenths, int slips) {
            super(number, comesTenths);
            this.slips = slips;
        }

        int kind() {
            return KIND_MISTAKEN;
        }

        int n() {
            return slips;
        }

        int blackOfStranger(int minded, int friend, boolean watched) {
            return (minded * (TENTHS - slips) + slips * (TENTHS - minded)) / TENTHS;
        }
    }

    private static class Vengeful extends Person {
        private final int other;

        Vengeful(int number, int comesTenths, int other) {
            super(number, comesTenths);
            this.other = other;
        }

        int kind() {
            return KIND_VENGEFUL;
        }

        final int n() {
            return other;
        }

        int blackOfStranger(int minded, int friend, boolean watched) {
            return friend == other ? TENTHS : minded;
        }
    }

    private static final class Traded extends Vengeful {
        Traded(int number, int comesTenths, int other) {
            super(number, comesTenths, other);
        }

        int kind() {
            return KIND_TRADED;
        }

        int blackOfStranger(int minded, int friend, boolean watched) {
            return friend == n() ? 0 : minded;
        }
    }

    /** In how many ways, of 10 to the number of balls, so many of them are black. */
    private static final class Tally {
        private final long[] ways = new long[MOST_BALLS + 1];
        private int balls;
        private long all;

        void begin() {
            balls = 0;
            all = 1;
            ways[0] = 1;
        }

        void put(int black) {
            if (balls >= MOST_BALLS) {
                return;
            }
            balls++;
            ways[balls] = 0;
            int white = TENTHS - black;
            for (int k = balls; k >= 1; k--) {
                ways[k] = ways[k] * white + ways[k - 1] * black;
            }
            ways[0] *= white;
            all *= TENTHS;
        }

        long waysTo(int k) {
            return k >= 0 && k <= balls ? ways[k] : 0;
        }

        long all() {
            return all;
        }
    }

    /** In how many ways, of 100 to the number of MEMBERS, so many come and so many balls are black. */
    private static final class Turnout {
        private static final int WIDTH = MOST_MEMBERS + 1;

        private final long[] ways = new long[WIDTH * WIDTH];
        private int asked;
        private long all;

        void begin() {
            Arrays.fill(ways, 0);
            ways[0] = 1;
            asked = 0;
            all = 1;
        }

        void mayCome(int comes, int black) {
            if (asked >= MOST_MEMBERS) {
                return;
            }
            asked++;
            all *= TENTHS * TENTHS;
            long away = (TENTHS - comes) * TENTHS;
            long putsBlack = comes * black;
            long putsWhite = comes * (TENTHS - black);
            for (int came = asked; came >= 0; came--) {
                for (int k = came; k >= 0; k--) {
                    ways[came * WIDTH + k] = waysTo(came, k) * away
                        + waysTo(came - 1, k) * putsWhite
                        + waysTo(came - 1, k - 1) * putsBlack;
                }
            }
        }

        long waysIn(Rule r) {
            long sum = 0;
            for (int came = 1; came <= asked; came++) {
                for (int k = 0; k <= came; k++) {
                    if (r.letsIn(k, came)) {
                        sum += waysTo(came, k);
                    }
                }
            }
            return sum;
        }

        long all() {
            return all;
        }

        private long waysTo(int came, int k) {
            return came >= 0 && came < WIDTH && k >= 0 && k <= came ? ways[came * WIDTH + k] : 0;
        }
    }

    /** Balls put by a SEED. */
    private static final class Ballot {
        private final int[] blackTenths = new int[MOST_BALLS];
        private int came;
        private int seed;
        private int lastBlacks;
        private boolean letIn;

        void begin() {
            came = 0;
        }

        void seat(int black) {
            if (came < MOST_BALLS) {
                blackTenths[came] = black;
                came++;
            }
        }

        void hold(Rule r, int start) {
            seed = start;
            lastBlacks = NONE;
            letIn = false;
            if (!r.hasQuorum(came)) {
                return;
            }
            putBalls();
            if (r.twice && r.shutsOut(lastBlacks, came)) {
                putBalls();
            }
            letIn = !r.shutsOut(lastBlacks, came);
        }

        private void putBalls() {
            lastBlacks = 0;
            for (int i = 0; i < came; i++) {
                seed = nextSeed(seed);
                if (drawnTenth(seed) < blackTenths[i]) {
                    lastBlacks++;
                }
            }
        }

        static int nextSeed(int seed) {
            return 1103515245 * seed + 12345 & Integer.MAX_VALUE;
        }

        static int drawnTenth(int seed) {
            return seed / 65536 % TENTHS;
        }
    }

    /** A CLUB. */
    private static final class Club {
        private static final int SEATS = 8;

        private final int[] tastes = new int[SEATS];
        private final Ballot ballot = new Ballot();
        private int size;
        private int letIn;
        private int seed;

        void found(int start) {
            seed = start;
            letIn = 0;
            size = SEATS;
            for (int i = 0; i < SEATS; i++) {
                tastes[i] = drawTaste();
            }
        }

        void passYear(Rule r) {
            firstGoes();
            int taste = drawTaste();
            ballot.begin();
            for (int i = 0; i < size; i++) {
                ballot.seat(2 * Math.abs(taste - tastes[i]));
            }
            ballot.hold(r, seed);
            seed = ballot.seed;
            if (ballot.letIn && size < SEATS) {
                tastes[size] = taste;
                size++;
                letIn++;
            }
        }

        int unlikeTastes() {
            int had = 0;
            for (int i = 0; i < size; i++) {
                had |= 1 << tastes[i];
            }
            return Integer.bitCount(had);
        }

        private void firstGoes() {
            if (size > 0) {
                size--;
                System.arraycopy(tastes, 1, tastes, 0, size);
            }
        }

        private int drawTaste() {
            seed = Ballot.nextSeed(seed);
            return Ballot.drawnTenth(seed);
        }
    }
}
