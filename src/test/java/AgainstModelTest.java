import java.math.BigInteger;
import java.util.ArrayList;
import java.util.HashSet;
import java.util.List;
import java.util.Random;

/** Long runs of calls by fixed seeds, wrong inputs among them, each answer against a slow model that tries all cases one by one. */
public final class AgainstModelTest {
    private static final int NONE = -1, UNKNOWN = -101, OUTSIDE = -102, STATE = -103, FULL = -104;
    private static final int RUNS = 1000;
    private static final int CALLS = 512;
    private static final int MOST_CALLS_OF_A_STEP = 3;

    private static final class Fraction {
        private static final Fraction ZERO = new Fraction(BigInteger.ZERO, BigInteger.ONE);
        private static final Fraction ONE = new Fraction(BigInteger.ONE, BigInteger.ONE);
        private final BigInteger above;
        private final BigInteger below;

        private Fraction(BigInteger above, BigInteger below) {
            BigInteger d = above.gcd(below);
            this.above = above.divide(d);
            this.below = below.divide(d);
        }

        private static Fraction of(long above, long below) {
            return new Fraction(BigInteger.valueOf(above), BigInteger.valueOf(below));
        }

        private Fraction plus(Fraction o) {
            return new Fraction(above.multiply(o.below).add(o.above.multiply(below)), below.multiply(o.below));
        }

        private Fraction less(Fraction o) {
            return new Fraction(above.multiply(o.below).subtract(o.above.multiply(below)), below.multiply(o.below));
        }

        private Fraction by(Fraction o) {
            return new Fraction(above.multiply(o.above), below.multiply(o.below));
        }

        private int compare(Fraction o) {
            return above.multiply(o.below).compareTo(o.above.multiply(below));
        }

        private Fraction size() {
            return new Fraction(above.abs(), below);
        }

        private long part(int part) {
            return (part == 0 ? above : below).longValueExact();
        }
    }

    private static final class Model {
        private static final List<String> ALL_RULES = allRules();
        private String page = "";
        private final List<String> rules = new ArrayList<>();
        private final List<int[]> members = new ArrayList<>();
        private final List<Integer> friends = new ArrayList<>();
        private int[][] minds = new int[8][6];
        private int[][] keptMinds;
        private int[] keptComes;
        private int keptCandidates;

        private static List<String> allRules() {
            List<String> all = new ArrayList<>();
            for (int size = 1; size <= 20; size++) {
                for (int q = 0; q <= 8; q++) {
                    for (String end : new String[] {"c", "y", "tc", "ty"}) {
                        if (size <= 8) {
                            all.add("b" + size + "q" + q + end);
                        }
                        if (size >= 2) {
                            all.add("r" + size + "q" + q + end);
                        }
                    }
                }
            }
            return all;
        }

        private int letters(long w) {
            StringBuilder more = new StringBuilder();
            boolean ended = false;
            for (int i = 0; i < 8; i++) {
                int code = (int) (w >> (8 * i)) & 0xff;
                if (code > 126 || ended && code > 0) {
                    return OUTSIDE;
                }
                ended |= code == 0;
                if (!ended) {
                    more.append((char) code);
                }
            }
            if (page.length() + more.length() > 20) {
                return FULL;
            }
            page += more;
            return page.length();
        }

        private int blank() {
            int had = page.length();
            page = "";
            return had;
        }

        private int fault() {
            int far = 0;
            for (String text : ALL_RULES) {
                int same = 0;
                while (same < page.length() && same < text.length() && page.charAt(same) == text.charAt(same)) {
                    same++;
                }
                far = Math.max(far, same);
            }
            return far;
        }

        private int rule() {
            if (!ALL_RULES.contains(page)) {
                return STATE;
            }
            if (rules.size() == 6) {
                return FULL;
            }
            rules.add(page);
            page = "";
            return rules.size() - 1;
        }

        private boolean noRule(int rule) {
            return rule < 0 || rule >= rules.size();
        }

        private boolean noMember(int member) {
            return member < 0 || member >= members.size();
        }

        private boolean noCandidate(int candidate) {
            return candidate < 0 || candidate >= friends.size();
        }

        private boolean noComers(int comers) {
            return comers < 1 || comers >= 1 << members.size();
        }

        private static boolean off(int v, int least, int most) {
            return v < least || v > most;
        }

        private int size(int rule) {
            String text = rules.get(rule);
            return Integer.parseInt(text.substring(1, text.indexOf('q')));
        }

        private int quorum(int rule) {
            String text = rules.get(rule);
            return text.charAt(text.indexOf('q') + 1) - '0';
        }

        private boolean twice(int rule) {
            return rules.get(rule).indexOf('t') >= 0;
        }

        private boolean told(int rule) {
            return rules.get(rule).endsWith("c");
        }

        private boolean byBlacks(int rule) {
            return rules.get(rule).startsWith("b");
        }

        private int ruleTold(int rule, int what) {
            if (noRule(rule)) {
                return UNKNOWN;
            }
            switch (what) {
                case 0: return byBlacks(rule) ? size(rule) : 0;
                case 1: return byBlacks(rule) ? 0 : size(rule);
                case 2: return quorum(rule);
                case 3: return twice(rule) ? 1 : 0;
                case 4: return told(rule) ? 1 : 0;
                default: return OUTSIDE;
            }
        }

        private int member(int kind, int n, int comes) {
            if (off(kind, 0, 4)) {
                return OUTSIDE;
            }
            if (kind > 2 && noMember(n)) {
                return UNKNOWN;
            }
            if (kind == 2 && off(n, 0, 5) || kind < 2 && n != 0 || off(comes, 0, 10)) {
                return OUTSIDE;
            }
            if (members.size() == 8) {
                return FULL;
            }
            members.add(new int[] {kind, n, comes});
            return members.size() - 1;
        }

        private int as(int member, int kind) {
            if (noMember(member)) {
                return UNKNOWN;
            }
            if (off(kind, 0, 4)) {
                return OUTSIDE;
            }
            int own = members.get(member)[0];
            return kind == 0 || kind == own || kind == 3 && own == 4 ? member : NONE;
        }

        private int about(int member, int what) {
            return noMember(member) ? UNKNOWN : off(what, 0, 2) ? OUTSIDE : members.get(member)[what];
        }

        private int comes(int member, int v) {
            if (noMember(member)) {
                return UNKNOWN;
            }
            if (off(v, 0, 10)) {
                return OUTSIDE;
            }
            int was = members.get(member)[2];
            members.get(member)[2] = v;
            return was;
        }

        private int candidate(int friend) {
            if (noMember(friend)) {
                return UNKNOWN;
            }
            if (friends.size() == 6) {
                return FULL;
            }
            friends.add(friend);
            return friends.size() - 1;
        }

        private int minds(int member, int candidate, int v) {
            if (noMember(member) || noCandidate(candidate)) {
                return UNKNOWN;
            }
            if (off(v, -1, 10)) {
                return OUTSIDE;
            }
            int was = minds[member][candidate];
            if (v >= 0) {
                minds[member][candidate] = v;
            }
            return was;
        }

        private int much(int candidate) {
            int many = 0;
            for (int i = 0; i < members.size(); i++) {
                many += minds[i][candidate] >= 5 ? 1 : 0;
            }
            return many;
        }

        private int friend(int candidate, int what) {
            if (noCandidate(candidate)) {
                return UNKNOWN;
            }
            return off(what, 0, 2) ? OUTSIDE : what == 0 ? friends.get(candidate) : what == 2 ? much(candidate) : much(candidate) >= 2 ? 1 : 0;
        }

        private int blackOf(int rule, int candidate, int came, int member) {
            int kind = members.get(member)[0];
            int n = members.get(member)[1];
            int friend = friends.get(candidate);
            int m = minds[member][candidate];
            if (friend == member) {
                return 0;
            }
            if (kind == 1) {
                return told(rule) || came < 4 ? m / 2 : m;
            }
            if (kind == 2) {
                return (m * (10 - n) + n * (10 - m)) / 10;
            }
            if (kind == 3 && friend == n) {
                return 10;
            }
            return kind == 4 && friend == n ? 0 : m;
        }

        private int black(int rule, int candidate, int comers, int member) {
            if (noRule(rule) || noCandidate(candidate) || noMember(member)) {
                return UNKNOWN;
            }
            if (noComers(comers) || (comers & 1 << member) == 0) {
                return OUTSIDE;
            }
            return blackOf(rule, candidate, Integer.bitCount(comers), member);
        }

        private boolean shuts(int rule, int blacks, int came) {
            return byBlacks(rule) ? blacks >= size(rule) : size(rule) * blacks >= came;
        }

        /** In how many of 10 to the so many ways just these of the comers put black ones. */
        private long ways(int rule, int candidate, int comers, int countedAsCome, int blackOnes) {
            long ways = 1;
            for (int i = 0; i < members.size(); i++) {
                if ((comers & 1 << i) != 0) {
                    int b = blackOf(rule, candidate, countedAsCome, i);
                    ways *= (blackOnes & 1 << i) != 0 ? b : 10 - b;
                }
            }
            return ways;
        }

        private static long tens(int comers) {
            long p = 1;
            for (int i = 0; i < Integer.bitCount(comers); i++) {
                p *= 10;
            }
            return p;
        }

        private int balls(int rule, int candidate, int comers, int k, int part) {
            if (noRule(rule) || noCandidate(candidate)) {
                return UNKNOWN;
            }
            if (noComers(comers) || off(k, 0, 8) || off(part, 0, 1)) {
                return OUTSIDE;
            }
            long sum = 0;
            for (int set = 0; set <= comers; set++) {
                if ((set & ~comers) == 0 && Integer.bitCount(set) == k) {
                    sum += ways(rule, candidate, comers, Integer.bitCount(comers), set);
                }
            }
            return (int) Fraction.of(sum, tens(comers)).part(part);
        }

        private Fraction shutOut(int rule, int candidate, int comers, int countedAsCome) {
            long sum = 0;
            for (int set = 0; set <= comers; set++) {
                if ((set & ~comers) == 0 && shuts(rule, Integer.bitCount(set), Integer.bitCount(comers))) {
                    sum += ways(rule, candidate, comers, countedAsCome, set);
                }
            }
            return Fraction.of(sum, tens(comers));
        }

        private Fraction inOf(int rule, int candidate, int comers) {
            if (comers == 0 || Integer.bitCount(comers) < quorum(rule)) {
                return Fraction.ZERO;
            }
            Fraction out = shutOut(rule, candidate, comers, Integer.bitCount(comers));
            Fraction once = Fraction.ONE.less(out);
            return twice(rule) ? once.plus(out.by(once)) : once;
        }

        private long in(int rule, int candidate, int comers, int part) {
            if (noRule(rule) || noCandidate(candidate)) {
                return UNKNOWN;
            }
            return noComers(comers) || off(part, 0, 1) ? OUTSIDE : inOf(rule, candidate, comers).part(part);
        }

        private long large(int rule, int candidate, int part) {
            if (noRule(rule) || noCandidate(candidate)) {
                return UNKNOWN;
            }
            if (off(part, 0, 1)) {
                return OUTSIDE;
            }
            if (twice(rule)) {
                return STATE;
            }
            Fraction sum = Fraction.ZERO;
            for (int comers = 1; comers < 1 << members.size(); comers++) {
                long weight = 1;
                for (int i = 0; i < members.size(); i++) {
                    weight *= (comers & 1 << i) != 0 ? members.get(i)[2] : 10 - members.get(i)[2];
                }
                if (weight > 0 && Integer.bitCount(comers) >= quorum(rule)) {
                    Fraction let = Fraction.ONE.less(shutOut(rule, candidate, comers, members.size()));
                    sum = sum.plus(let.by(Fraction.of(weight, tens((1 << members.size()) - 1))));
                }
            }
            return sum.part(part);
        }

        private Fraction wrongOf(int rule, int comers) {
            Fraction sum = Fraction.ZERO;
            for (int c = 0; c < friends.size(); c++) {
                Fraction in = inOf(rule, c, comers);
                sum = sum.plus(much(c) >= 2 ? in : Fraction.ONE.less(in));
            }
            return sum;
        }

        private long wrong(int rule, int comers) {
            if (noRule(rule)) {
                return UNKNOWN;
            }
            if (noComers(comers)) {
                return OUTSIDE;
            }
            Fraction scaled = wrongOf(rule, comers).by(Fraction.of(tens(comers) * tens(comers), 1));
            return scaled.part(0) / (scaled.part(1) == 1 ? 1 : 0);
        }

        private int best(int comers) {
            if (noComers(comers)) {
                return OUTSIDE;
            }
            int best = NONE;
            for (int r = rules.size() - 1; r >= 0; r--) {
                if (best == NONE || wrongOf(r, comers).compare(wrongOf(best, comers)) <= 0) {
                    best = r;
                }
            }
            return best;
        }

        private int who(int rule, int candidate, int comers, int member, int k, int part) {
            if (noRule(rule) || noCandidate(candidate) || noMember(member)) {
                return UNKNOWN;
            }
            if (noComers(comers) || (comers & 1 << member) == 0 || off(k, -1, 8) || off(part, 0, 1)) {
                return OUTSIDE;
            }
            long did = 0;
            long all = 0;
            for (int set = 0; set <= comers; set++) {
                int blacks = Integer.bitCount(set);
                int came = Integer.bitCount(comers);
                if ((set & ~comers) == 0 && (k == NONE ? shuts(rule, blacks, came) : blacks == k)) {
                    long ways = ways(rule, candidate, comers, came, set);
                    all += ways;
                    did += (set & 1 << member) != 0 ? ways : 0;
                }
            }
            return all == 0 ? NONE : (int) Fraction.of(did, all).part(part);
        }

        private int heard(int rule, int candidate, int comers, int member, int right, boolean black, int part) {
            if (noRule(rule) || noCandidate(candidate) || noMember(member)) {
                return UNKNOWN;
            }
            if (noComers(comers) || (comers & 1 << member) == 0 || off(right, 0, 10) || off(part, 0, 1)) {
                return OUTSIDE;
            }
            int b = blackOf(rule, candidate, Integer.bitCount(comers), member);
            int did = 0;
            int all = 0;
            for (int put = 0; put < 10; put++) {
                for (int ear = 0; ear < 10; ear++) {
                    boolean isBlack = put < b;
                    boolean hears = ear < right ? isBlack : !isBlack;
                    all += hears == black ? 1 : 0;
                    did += hears == black && isBlack ? 1 : 0;
                }
            }
            return all == 0 ? NONE : (int) Fraction.of(did, all).part(part);
        }

        private int sway(int rule, int candidate, int comers) {
            if (noRule(rule) || noCandidate(candidate)) {
                return UNKNOWN;
            }
            if (noComers(comers)) {
                return OUTSIDE;
            }
            Fraction in = inOf(rule, candidate, comers);
            Fraction most = null;
            int who = NONE;
            for (int i = 0; i < members.size(); i++) {
                if ((comers & 1 << i) != 0) {
                    Fraction here = in.less(inOf(rule, candidate, comers ^ 1 << i)).size();
                    if (most == null || here.compare(most) > 0) {
                        most = here;
                        who = i;
                    }
                }
            }
            return who;
        }

        private int word(int rule, int comers, int tenths) {
            if (noRule(rule)) {
                return UNKNOWN;
            }
            if (noComers(comers) || off(tenths, 0, 10)) {
                return OUTSIDE;
            }
            int bits = 0;
            for (int c = 0; c < friends.size(); c++) {
                bits |= inOf(rule, c, comers).compare(Fraction.of(tenths, 10)) < 0 ? 1 << c : 0;
            }
            return bits;
        }

        private long seen(int rule, int comers, int tenths, int part) {
            int gone = word(rule, comers, tenths);
            if (gone < 0) {
                return gone;
            }
            if (off(part, 0, 1)) {
                return OUTSIDE;
            }
            Fraction sum = Fraction.ZERO;
            for (int c = 0; c < friends.size(); c++) {
                if ((gone & 1 << c) == 0) {
                    sum = sum.plus(Fraction.ONE).less(inOf(rule, c, comers));
                }
            }
            return sum.part(part);
        }

        private static long next(long seed) {
            return Math.floorMod(1103515245L * seed + 12345L, 1L << 31);
        }

        private static long draw(long seed) {
            return seed / 65536 % 10;
        }

        /** The last round's black ones, whether let in, the seed then. */
        private long[] hold(int rule, int[] tenths, long start) {
            long seed = start;
            long blacks = NONE;
            boolean in = false;
            int rounds = tenths.length == 0 || tenths.length < quorum(rule) ? 0 : twice(rule) ? 2 : 1;
            while (rounds > 0 && !in) {
                blacks = 0;
                for (int t : tenths) {
                    seed = next(seed);
                    blacks += draw(seed) < t ? 1 : 0;
                }
                in = !shuts(rule, (int) blacks, tenths.length);
                rounds--;
            }
            return new long[] {blacks, in ? 1 : 0, seed};
        }

        private int evening(int rule, int candidate, int comers, int seed, int what) {
            if (noRule(rule) || noCandidate(candidate)) {
                return UNKNOWN;
            }
            if (noComers(comers) || seed < 0 || off(what, 0, 2)) {
                return OUTSIDE;
            }
            int came = Integer.bitCount(comers);
            int[] tenths = new int[came];
            for (int i = 0, at = 0; i < members.size(); i++) {
                if ((comers & 1 << i) != 0) {
                    tenths[at++] = blackOf(rule, candidate, came, i);
                }
            }
            return (int) hold(rule, tenths, seed)[what];
        }

        private boolean letInOpenly(int rule, int candidate, boolean[] black) {
            int blacks = 0;
            for (int i = 0; i < members.size(); i++) {
                blacks += black[i] ? 1 : 0;
            }
            return members.size() >= quorum(rule) && !shuts(rule, blacks, members.size());
        }

        private int gain(int rule, int[] xyab, int way, int forWhom) {
            int sum = 0;
            for (int turn = 2; turn <= 3; turn++) {
                int candidate = xyab[turn];
                boolean[] black = new boolean[8];
                for (int i = 0; i < members.size(); i++) {
                    black[i] = minds[i][candidate] >= 5;
                }
                black[xyab[0]] = turn == 3 && (way == 1 || way == 3);
                black[xyab[1]] = turn == 2 && (way == 2 || way == 3);
                sum += letInOpenly(rule, candidate, black) ? 5 - minds[forWhom][candidate] : 0;
            }
            return sum;
        }

        private int trade(int rule, int x, int y, int a, int b) {
            if (noRule(rule) || noMember(x) || noMember(y) || x == y || noCandidate(a) || noCandidate(b) || a == b) {
                return UNKNOWN;
            }
            int[] xyab = {x, y, a, b};
            int[] xOther = {1, 0, 3, 2};
            int[] yOther = {2, 3, 0, 1};
            int bits = 0;
            for (int way = 0; way < 4; way++) {
                boolean x0 = gain(rule, xyab, xOther[way], x) > gain(rule, xyab, way, x);
                boolean y0 = gain(rule, xyab, yOther[way], y) > gain(rule, xyab, way, y);
                bits |= x0 || y0 ? 0 : 1 << way;
            }
            return bits;
        }

        private static final Fraction[][] WORTHS = new Fraction[9][4];

        private static Fraction worthOf(int n, int v) {
            if (n == 0 || v == 0) {
                return Fraction.ZERO;
            }
            if (WORTHS[n][v] == null) {
                Fraction sum = Fraction.ZERO;
                for (int x = 0; x <= 10; x++) {
                    Fraction used = Fraction.of(x, 1).plus(worthOf(n - 1, v - 1));
                    Fraction spared = worthOf(n - 1, v);
                    sum = sum.plus(used.compare(spared) > 0 ? used : spared);
                }
                WORTHS[n][v] = sum.by(Fraction.of(1, 11));
            }
            return WORTHS[n][v];
        }

        private static int veto(int n, int v, int x) {
            if (off(n, 1, 8) || off(v, 0, 3) || off(x, 0, 10)) {
                return OUTSIDE;
            }
            return v > 0 && Fraction.of(x, 1).plus(worthOf(n - 1, v - 1)).compare(worthOf(n - 1, v)) > 0 ? 1 : 0;
        }

        private static long worth(int n, int v, int part) {
            return off(n, 1, 8) || off(v, 0, 3) || off(part, 0, 1) ? OUTSIDE : worthOf(n, v).part(part);
        }

        private int years(int rule, int years, int start, int what) {
            if (noRule(rule)) {
                return UNKNOWN;
            }
            if (off(years, 0, 60) || start < 0 || off(what, 0, 3)) {
                return OUTSIDE;
            }
            long seed = start;
            List<Integer> club = new ArrayList<>();
            for (int i = 0; i < 8; i++) {
                seed = next(seed);
                club.add((int) draw(seed));
            }
            int let = 0;
            for (int year = 0; year < years; year++) {
                if (!club.isEmpty()) {
                    club.remove(0);
                }
                seed = next(seed);
                int taste = (int) draw(seed);
                int[] tenths = new int[club.size()];
                for (int i = 0; i < tenths.length; i++) {
                    tenths[i] = 2 * Math.abs(club.get(i) - taste);
                }
                long[] held = hold(rule, tenths, seed);
                seed = held[2];
                if (held[1] == 1) {
                    club.add(taste);
                    let++;
                }
            }
            return what == 0 ? club.size() : what == 1 ? new HashSet<>(club).size() : what == 2 ? let : (int) seed;
        }

        private int lot(int candidate, int part) {
            if (noCandidate(candidate)) {
                return UNKNOWN;
            }
            if (off(part, 0, 1)) {
                return OUTSIDE;
            }
            Fraction f = much(candidate) >= 2 ? Fraction.ZERO : Fraction.of(1, friends.size() - count(4));
            return (int) f.part(part);
        }

        private int image() {
            keptMinds = new int[members.size()][];
            keptComes = new int[members.size()];
            keptCandidates = friends.size();
            for (int i = 0; i < members.size(); i++) {
                keptMinds[i] = minds[i].clone();
                keptComes[i] = members.get(i)[2];
            }
            return members.size();
        }

        private int restore() {
            if (keptComes == null) {
                return STATE;
            }
            for (int i = 0; i < keptComes.length; i++) {
                members.get(i)[2] = keptComes[i];
                for (int c = 0; c < keptCandidates; c++) {
                    minds[i][c] = keptMinds[i][c];
                }
            }
            return members.size();
        }

        private int count(int what) {
            int minded = 0;
            for (int c = 0; c < friends.size(); c++) {
                minded += much(c) >= 2 ? 1 : 0;
            }
            int[] counts = {members.size(), friends.size(), rules.size(), page.length(), minded};
            return off(what, 0, 4) ? OUTSIDE : counts[what];
        }

        private long digest() {
            List<Long> all = new ArrayList<>();
            for (int r = 0; r < rules.size(); r++) {
                for (int what = 0; what < 5; what++) {
                    all.add((long) ruleTold(r, what));
                }
            }
            for (int i = 0; i < members.size(); i++) {
                for (int what = 0; what < 3; what++) {
                    all.add((long) about(i, what));
                }
                for (int c = 0; c < friends.size(); c++) {
                    all.add((long) minds[i][c]);
                }
            }
            for (int c = 0; c < friends.size(); c++) {
                for (int what = 0; what < 3; what++) {
                    all.add((long) friend(c, what));
                }
            }
            for (int r = 0; r < rules.size(); r++) {
                for (int c = 0; c < friends.size(); c++) {
                    Fraction in = inOf(r, c, (1 << members.size()) - 1);
                    all.add(in.part(0));
                    all.add(in.part(1));
                }
            }
            for (char letter : page.toCharArray()) {
                all.add((long) letter);
            }
            for (int what = 0; what < 5; what++) {
                all.add((long) count(what));
            }
            long h = 487;
            for (long number : all) {
                h = h * 31 + number;
            }
            return h;
        }
    }

    private final Random random;
    private final BlackBalls x = new BlackBalls();
    private final Model m = new Model();
    private final StringBuilder call = new StringBuilder();
    private int asked = 0;

    private AgainstModelTest(long seed) {
        random = new Random(seed);
    }

    /** Mostly from least to most, now and then beside or far off. */
    private int pick(int least, int most) {
        int v = least + random.nextInt(Math.max(1, most - least + 1));
        int odd = random.nextInt(60);
        if (odd == 0) {
            v = least - 1;
        } else if (odd == 1) {
            v = most + 1;
        } else if (odd == 2) {
            v = random.nextBoolean() ? Integer.MIN_VALUE : random.nextInt();
        }
        call.append(' ').append(v);
        return v;
    }

    private int pickRule() {
        return pick(0, m.rules.size() - 1);
    }

    private int pickMember() {
        return pick(0, m.members.size() - 1);
    }

    private int pickCandidate() {
        return pick(0, m.friends.size() - 1);
    }

    /** Now and then of three at most, as FEARED ones then fear. */
    private int pickComers() {
        if (m.members.isEmpty() || random.nextInt(3) > 0) {
            return pick(1, (1 << m.members.size()) - 1);
        }
        int few = 0;
        for (int i = 0; i < 3; i++) {
            few |= 1 << random.nextInt(m.members.size());
        }
        call.append(' ').append(few);
        return few;
    }

    /** Mostly one of those who came. */
    private int pickComer(int comers) {
        int member = random.nextInt(8);
        for (int i = 0; i < 8 && (comers >> member & 1) == 0; i++) {
            member = (member + 1) % 8;
        }
        if (random.nextInt(4) == 0 || (comers >> member & 1) == 0) {
            return pickMember();
        }
        call.append(' ').append(member);
        return member;
    }

    private int pickSeed() {
        return pick(0, random.nextInt(Integer.MAX_VALUE));
    }

    private long pickLetters() {
        int way = random.nextInt(10);
        String text = way < 7 ? Model.ALL_RULES.get(random.nextInt(Model.ALL_RULES.size())) : "";
        if (way == 5) {
            text = text.substring(0, random.nextInt(text.length()));
        }
        int extra = way < 6 ? 0 : random.nextInt(4);
        for (int i = 0; i < extra; i++) {
            text += "br0123456789qtcyx".charAt(random.nextInt(17));
        }
        long w = way == 9 && random.nextInt(4) == 0 ? random.nextLong() : 0;
        for (int i = Math.min(8, text.length()) - 1; i >= 0; i--) {
            w = w << 8 | text.charAt(i);
        }
        call.append(' ').append(w);
        return w;
    }

    private boolean same(String name, long got, long want) {
        asked++;
        if (got != want) {
            System.out.println(name + call + " answered " + got + ", due is " + want);
        }
        return got == want;
    }

    private boolean building(int which) {
        int a, b, c;
        switch (which) {
            case 0:
                long w = pickLetters();
                return same("letters", x.letters(w), m.letters(w));
            case 1:
                return same("fault", x.fault(), m.fault()) && same("rule", x.rule(), m.rule()) && same("blank", x.blank(), m.blank());
            case 2:
                a = pick(0, 4);
                b = a < 2 ? pick(0, 0) : a == 2 ? pick(0, 5) : pickMember();
                c = pick(0, 10);
                return same("member", x.member(a, b, c), m.member(a, b, c));
            case 3:
                a = pickMember();
                return same("candidate", x.candidate(a), m.candidate(a));
            case 4:
                a = pickMember();
                b = pickCandidate();
                c = pick(-1, 10);
                return same("minds", x.minds(a, b, c), m.minds(a, b, c));
            case 5:
                a = pickMember();
                b = pick(0, 10);
                return same("comes", x.comes(a, b), m.comes(a, b));
            case 6:
                return random.nextInt(8) == 0 ? same("image", x.image(), m.image()) : true;
            default:
                return random.nextInt(8) == 0 ? same("restore", x.restore(), m.restore()) : true;
        }
    }

    private boolean telling(int which) {
        int a, b;
        switch (which) {
            case 0:
                a = pickRule();
                b = pick(0, 4);
                return same("ruleTold", x.ruleTold(a, b), m.ruleTold(a, b));
            case 1:
                a = pickMember();
                b = pick(0, 4);
                return same("as", x.as(a, b), m.as(a, b));
            case 2:
                a = pickMember();
                b = pick(0, 2);
                return same("about", x.about(a, b), m.about(a, b));
            case 3:
                a = pickCandidate();
                b = pick(0, 2);
                return same("friend", x.friend(a, b), m.friend(a, b));
            case 4:
                a = pickCandidate();
                b = pick(0, 1);
                return same("lot", x.lot(a, b), m.lot(a, b));
            case 5:
                a = pick(0, 4);
                return same("count", x.count(a), m.count(a));
            default:
                return random.nextInt(6) == 0 ? same("digest", x.digest(), m.digest()) : true;
        }
    }

    private boolean asking(int which) {
        int r = pickRule();
        int c = pickCandidate();
        int s = pickComers();
        int p = pick(0, 1);
        int a, b;
        switch (which) {
            case 0:
                a = pickComer(s);
                return same("black", x.black(r, c, s, a), m.black(r, c, s, a));
            case 1:
                a = pick(0, random.nextBoolean() ? 8 : Integer.bitCount(s));
                return same("balls", x.balls(r, c, s, a, p), m.balls(r, c, s, a, p));
            case 2:
                return same("in", x.in(r, c, s, p), m.in(r, c, s, p));
            case 3:
                return random.nextInt(3) == 0 ? same("large", x.large(r, c, p), m.large(r, c, p)) : true;
            case 4:
                return same("wrong", x.wrong(r, s), m.wrong(r, s));
            case 5:
                return same("best", x.best(s), m.best(s));
            case 6:
                a = pickComer(s);
                b = pick(-1, random.nextBoolean() ? 8 : Integer.bitCount(s));
                return same("who", x.who(r, c, s, a, b, p), m.who(r, c, s, a, b, p));
            case 7:
                a = pickComer(s);
                b = pick(0, 10);
                boolean black = random.nextBoolean();
                return same("heard", x.heard(r, c, s, a, b, black, p), m.heard(r, c, s, a, b, black, p));
            case 8:
                return same("sway", x.sway(r, c, s), m.sway(r, c, s));
            case 9:
                a = pick(0, 10);
                return same("word", x.word(r, s, a), m.word(r, s, a));
            case 10:
                a = pick(0, 10);
                return same("seen", x.seen(r, s, a, p), m.seen(r, s, a, p));
            default:
                a = pickSeed();
                b = pick(0, 2);
                return same("evening", x.evening(r, c, s, a, b), m.evening(r, c, s, a, b));
        }
    }

    private boolean playing(int which) {
        int a, b, c, d, e;
        switch (which) {
            case 0:
                a = pickRule();
                b = pickMember();
                c = pickMember();
                d = pickCandidate();
                e = pickCandidate();
                return same("trade", x.trade(a, b, c, d, e), m.trade(a, b, c, d, e));
            case 1:
                a = pick(1, 8);
                b = pick(0, 3);
                c = pick(0, 10);
                return same("veto", x.veto(a, b, c), Model.veto(a, b, c));
            case 2:
                a = pick(1, 8);
                b = pick(0, 3);
                c = pick(0, 1);
                return same("worth", x.worth(a, b, c), Model.worth(a, b, c));
            default:
                a = pickRule();
                b = pick(0, 60);
                c = pickSeed();
                d = pick(0, 3);
                return same("years", x.years(a, b, c, d), m.years(a, b, c, d));
        }
    }

    private boolean one(int group) {
        call.setLength(0);
        if (group < 2) {
            return building(random.nextInt(8));
        }
        if (group < 3) {
            return telling(random.nextInt(7));
        }
        return group < 8 ? asking(random.nextInt(12)) : playing(random.nextInt(4));
    }

    /** The first steps build, so that later ones find something; behind CALLS calls any answer would do, so it ends ahead of that. */
    private boolean run() {
        int first = 10 + random.nextInt(40);
        for (int i = 0; asked + MOST_CALLS_OF_A_STEP < CALLS; i++) {
            if (!one(i < first ? 0 : random.nextInt(10))) {
                return false;
            }
        }
        return same("digest", x.digest(), m.digest());
    }

    public static void main(String[] args) {
        int wrong = 0;
        for (int seed = 1; seed <= RUNS; seed++) {
            try {
                if (!new AgainstModelTest(seed).run()) {
                    System.out.println("run of seed " + seed + " went wrong");
                    wrong++;
                }
            } catch (RuntimeException thrown) {
                System.out.println("run of seed " + seed + " threw");
                thrown.printStackTrace(System.out);
                wrong++;
            }
        }
        System.out.println(wrong == 0 ? "all runs are as the model's" : wrong + " runs are not as the model's");
        if (wrong != 0) {
            System.exit(1);
        }
    }
}
