import java.util.ArrayList;
import java.util.List;

/**
 * Of each call that is given numbers all that is just taken and just refused: each number at both of its ends and just off
 * them, together with all the others so, and what is refused first. No refusal changes anything. Not of letters, member and
 * candidate: what they do when taken cannot be taken back, so the boundary tests ask them of new objects.
 */
public final class RefusalTest extends Boundary {
    private static final int ASKED_OF_ONE_OBJECT = 60;

    private interface Ask {
        long of(BlackBalls x, int[] given);
    }

    /** What a call is given: from a least to a most value, and what is answered off these. */
    private static final class Given {
        private final String name;
        private final int least;
        private final int most;
        private final int refusal;

        private Given(String name, int least, int most, int refusal) {
            this.name = name;
            this.least = least;
            this.most = most;
            this.refusal = refusal;
        }

        private boolean takes(int v) {
            return v >= least && v <= most;
        }

        /** Its ends and those just off them, of a seed what is off as far as there is any. */
        private int[] edges() {
            return most == Integer.MAX_VALUE ? new int[] {least - 1, least, most, Integer.MIN_VALUE}
                : new int[] {least - 1, least, most, most + 1};
        }
    }

    /** A club of so many rules, members and candidates; its last rule is TWICE. */
    private static final class Size {
        private final Given rule;
        private final Given ruleOnce;
        private final Given member;
        private final Given candidate;
        private final Given comers;

        private Size(int rules, int members, int candidates) {
            rule = new Given("rule", 0, rules - 1, UNKNOWN);
            ruleOnce = new Given("rule not twice", 0, rules - 1, UNKNOWN);
            member = new Given("member", 0, members - 1, UNKNOWN);
            candidate = new Given("candidate", 0, candidates - 1, UNKNOWN);
            comers = new Given("comers", 1, (1 << members) - 1, OUTSIDE);
        }

        private BlackBalls club() {
            switch (member.most) {
                case NONE:
                    return new BlackBalls();
                case 0:
                    BlackBalls x = withMembers(1, "b1q0ty");
                    x.candidate(0);
                    return x;
                case 4:
                    return someClub();
                default:
                    return fullClub();
            }
        }
    }

    private static Given outside(String name, int least, int most) {
        return new Given(name, least, most, OUTSIDE);
    }

    private static final Given PART = outside("part", 0, 1);

    public static void main(String[] args) {
        for (Size size : new Size[] {new Size(0, 0, 0), new Size(1, 1, 1), new Size(2, 5, 3), new Size(6, 8, 6)}) {
            rulesAndMembers(size);
            changingCalls(size);
            evenings(size);
            games(size);
        }
        end();
    }

    private static void rulesAndMembers(Size size) {
        call(6, "ruleTold: UNKNOWN; OUTSIDE", size, (x, v) -> x.ruleTold(v[0], v[1]), size.rule, outside("what", 0, 4));
        call(8, "as: UNKNOWN; OUTSIDE", size, (x, v) -> x.as(v[0], v[1]), size.member, outside("kind", 0, 4));
        call(9, "about: UNKNOWN; OUTSIDE", size, (x, v) -> x.about(v[0], v[1]), size.member, outside("what", 0, 2));
        call(13, "friend: UNKNOWN; OUTSIDE", size, (x, v) -> x.friend(v[0], v[1]), size.candidate, outside("what", 0, 2));
        call(33, "count: OUTSIDE", size, (x, v) -> x.count(v[0]), outside("what", 0, 4));
    }

    /** These change something when they are taken, so each takes it back then. */
    private static void changingCalls(Size size) {
        call(10, "comes: UNKNOWN; OUTSIDE", size, (x, v) -> {
            long was = x.comes(v[0], v[1]);
            return was < 0 ? was : x.comes(v[0], (int) was);
        }, size.member, outside("v", 0, 10));
        call(12, "minds: UNKNOWN; OUTSIDE", size, (x, v) -> {
            long was = x.minds(v[0], v[1], v[2]);
            return was < 0 || v[2] == NONE ? was : x.minds(v[0], v[1], (int) was);
        }, size.member, size.candidate, outside("v", NONE, 10));
    }

    private static void evenings(Size size) {
        call(14, "black: OUTSIDE: comers, or the MEMBER is none of them", size,
            (x, v) -> x.black(v[0], v[1], v[2], v[3]), size.rule, size.candidate, size.comers, size.member);
        call(15, "balls: OUTSIDE: k (0 to 8), too", size,
            (x, v) -> x.balls(v[0], v[1], v[2], v[3], v[4]), size.rule, size.candidate, size.comers, outside("k", 0, 8), PART);
        call(16, "in", size, (x, v) -> x.in(v[0], v[1], v[2], v[3]), size.rule, size.candidate, size.comers, PART);
        call(17, "large: STATE: the RULE is TWICE", size, (x, v) -> x.large(v[0], v[1], v[2]), size.ruleOnce, size.candidate, PART);
        call(18, "wrong", size, (x, v) -> x.wrong(v[0], v[1]), size.rule, size.comers);
        call(19, "best: OUTSIDE", size, (x, v) -> x.best(v[0]), size.comers);
        call(20, "who: OUTSIDE: k (-1 to 8), the MEMBER is none of them, too", size,
            (x, v) -> x.who(v[0], v[1], v[2], v[3], v[4], v[5]),
            size.rule, size.candidate, size.comers, size.member, outside("k", NONE, 8), PART);
        call(21, "heard: OUTSIDE: right (0 to 10), the MEMBER is none of them, too", size,
            (x, v) -> x.heard(v[0], v[1], v[2], v[3], v[4], true, v[5]),
            size.rule, size.candidate, size.comers, size.member, outside("right", 0, 10), PART);
        call(21, "heard, a white one", size,
            (x, v) -> x.heard(v[0], v[1], v[2], v[3], v[4], false, v[5]),
            size.rule, size.candidate, size.comers, size.member, outside("right", 0, 10), PART);
        call(22, "sway", size, (x, v) -> x.sway(v[0], v[1], v[2]), size.rule, size.candidate, size.comers);
        call(23, "word: OUTSIDE: tenths (0 to 10), too", size,
            (x, v) -> x.word(v[0], v[1], v[2]), size.rule, size.comers, outside("tenths", 0, 10));
        call(24, "seen: OUTSIDE: tenths (0 to 10), too", size,
            (x, v) -> x.seen(v[0], v[1], v[2], v[3]), size.rule, size.comers, outside("tenths", 0, 10), PART);
        call(25, "evening: OUTSIDE: seed (0 at least), what, too", size,
            (x, v) -> x.evening(v[0], v[1], v[2], v[3], v[4]),
            size.rule, size.candidate, size.comers, outside("seed", 0, Integer.MAX_VALUE), outside("what", 0, 2));
    }

    private static void games(Size size) {
        call(26, "trade: UNKNOWN: rule, x, y (or they are the same), a, b (or they are the same)", size,
            (x, v) -> x.trade(v[0], v[1], v[2], v[3], v[4]),
            size.rule, size.member, size.member, size.candidate, size.candidate);
        call(27, "veto: OUTSIDE: n, v, x (0 to 10)", size, (x, v) -> x.veto(v[0], v[1], v[2]),
            outside("n", 1, 8), outside("v", 0, 3), outside("x", 0, 10));
        call(28, "worth: OUTSIDE", size, (x, v) -> x.worth(v[0], v[1], v[2]), outside("n", 1, 8), outside("v", 0, 3), PART);
        call(29, "years: UNKNOWN; OUTSIDE: years (0 to 60), seed, what", size, (x, v) -> x.years(v[0], v[1], v[2], v[3]),
            size.rule, outside("years", 0, 60), outside("seed", 0, Integer.MAX_VALUE), outside("what", 0, 3));
        call(30, "lot: UNKNOWN; OUTSIDE", size, (x, v) -> x.lot(v[0], v[1]), size.candidate, PART);
    }

    // ---- all cases of a call

    private static void call(int promise, String words, Size size, Ask ask, Given... given) {
        sentence(promise, words + ", of " + (size.member.most + 1) + " members");
        List<int[]> cases = new ArrayList<>();
        addCases(cases, given, new int[given.length], 0);
        addFarOnes(cases, given);
        BlackBalls x = size.club();
        String before = told(x);
        for (int i = 0; i < cases.size(); i++) {
            askOne(x, ask, given, cases.get(i));
            if (i % ASKED_OF_ONE_OBJECT == ASKED_OF_ONE_OBJECT - 1 || i == cases.size() - 1) {
                due("changed something", told(x).equals(before) ? 0 : 1, 0);
                x = size.club();
            }
        }
    }

    private static void askOne(BlackBalls x, Ask ask, Given[] given, int[] values) {
        StringBuilder text = new StringBuilder();
        for (int i = 0; i < given.length; i++) {
            text.append(given[i].name).append(' ').append(values[i]).append(' ');
        }
        long got = ask.of(x, values);
        int refusal = refusalOf(given, values);
        if (refusal == 0) {
            due(text + "is taken", got >= NONE ? 1 : 0, 1);
        } else {
            due(text.toString(), got, refusal);
        }
    }

    private static void addCases(List<int[]> cases, Given[] given, int[] values, int at) {
        if (at == given.length) {
            cases.add(values.clone());
            return;
        }
        for (int v : given[at].edges()) {
            values[at] = v;
            addCases(cases, given, values, at + 1);
        }
    }

    /** Each far off, beside others that are taken. */
    private static void addFarOnes(List<int[]> cases, Given[] given) {
        for (int at = 0; at < given.length; at++) {
            for (int far : new int[] {Integer.MIN_VALUE, Integer.MIN_VALUE + 1, -255, -104, -101, 255, 256, 1 << 30, Integer.MAX_VALUE}) {
                int[] values = new int[given.length];
                for (int i = 0; i < given.length; i++) {
                    values[i] = i == at ? far : given[i].name.equals("comers") ? given[i].most : given[i].least;
                }
                cases.add(values);
            }
        }
    }

    /** The first refusal that is due: what names nothing, what is not as told, what cannot be now; 0: it is taken. */
    private static int refusalOf(Given[] given, int[] values) {
        for (int refusal : new int[] {UNKNOWN, OUTSIDE}) {
            for (int i = 0; i < given.length; i++) {
                if (given[i].refusal == refusal && !given[i].takes(values[i])) {
                    return refusal;
                }
            }
            if (refusal == UNKNOWN && namesOneTwice(given, values)) {
                return UNKNOWN;
            }
        }
        if (isNoComer(given, values)) {
            return OUTSIDE;
        }
        return given[0].name.equals("rule not twice") && values[0] == given[0].most ? STATE : 0;
    }

    private static boolean namesOneTwice(Given[] given, int[] values) {
        for (int i = 1; i < given.length; i++) {
            if (given[i] == given[i - 1] && values[i] == values[i - 1]) {
                return true;
            }
        }
        return false;
    }

    private static boolean isNoComer(Given[] given, int[] values) {
        for (int i = 1; i < given.length; i++) {
            if (given[i - 1].name.equals("comers") && given[i].name.equals("member") && (values[i - 1] >> values[i] & 1) == 0) {
                return true;
            }
        }
        return false;
    }
}
