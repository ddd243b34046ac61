import java.math.BigInteger;

/** The boundary cases of promises 14 to 25: who puts a black ball, whom a round shuts out, what is told of an evening. */
public final class BoundaryEveningTest extends Boundary {
    private static final long TENS_OF_EIGHT_SQUARED = 10_000_000_000_000_000L;

    private interface OfComers {
        long ask(BlackBalls x, int comers);
    }

    public static void main(String[] args) {
        comersOneAtLeast();
        comersOfEight();
        comersOfNobody();
        memberIsNoneOfThem();
        friendPutsNone();
        fearedHalf();
        fearedByTheCount();
        fearedFewerThan4();
        mistaken();
        vengeful();
        traded();
        ballsFrom0To8();
        ballsOfEight();
        blacksOrMore();
        ratioAsManyAsComers();
        quorumOrMore();
        twiceASecondOne();
        inOfEight();
        largeByNobody();
        largeBySureOnes();
        largeByQuorum();
        largeByBlackOnes();
        largeFearedCountAll();
        largeOfEight();
        largeTwice();
        wrongOfNoCandidates();
        wrongOfMindedOrNot();
        wrongOfAll();
        bestOfNoRules();
        bestOfLikeOnes();
        whoByCount();
        whoShutOut();
        whoCannotBe();
        heardByRight();
        heardCannotBe();
        swayOfTheOnlyOne();
        swayOfLikeOnes();
        swayBySize();
        swayByQuorum();
        wordLessThan();
        wordOfEight();
        wordOfNoCandidates();
        seenOfNoneLeft();
        seenOfAll();
        eveningBelowQuorum();
        eveningDrawBelowBlack();
        eveningSeedWrapsAround();
        eveningTwice();
        eveningSeedFrom0();
        end();
    }

    /** Eight plain members; the last one put the candidate up; of the others the first ones mind it by 10. */
    private static BlackBalls sureBlacks(int blacks, String... rules) {
        BlackBalls x = withMembers(8, rules);
        x.candidate(7);
        for (int member = 0; member < blacks; member++) {
            x.minds(member, 0, 10);
        }
        return x;
    }

    /** Eight plain members; the last one put the candidate up; all others mind it by so many tenths. */
    private static BlackBalls sevenMind(int tenths, String... rules) {
        BlackBalls x = withMembers(8, rules);
        x.candidate(7);
        for (int member = 0; member < 7; member++) {
            x.minds(member, 0, tenths);
        }
        return x;
    }

    /** Two plain members; the second one put the candidate up; the first one minds it by so many tenths. */
    private static BlackBalls oneMinds(int tenths, String... rules) {
        BlackBalls x = withMembers(2, rules);
        x.candidate(1);
        x.minds(0, 0, tenths);
        return x;
    }

    private static int firstOnes(int many) {
        return (1 << many) - 1;
    }

    // ---- COMERS

    private static final OfComers[] OF_COMERS = {
        (x, comers) -> x.black(0, 0, comers, 0),
        (x, comers) -> x.balls(0, 0, comers, 0, 0),
        (x, comers) -> x.in(0, 0, comers, 0),
        (x, comers) -> x.wrong(0, comers),
        (x, comers) -> x.best(comers),
        (x, comers) -> x.who(0, 0, comers, 0, 1, 0),
        (x, comers) -> x.heard(0, 0, comers, 0, 5, true, 0),
        (x, comers) -> x.sway(0, 0, comers),
        (x, comers) -> x.word(0, comers, 5),
        (x, comers) -> x.seen(0, comers, 5, 0),
        (x, comers) -> x.evening(0, 0, comers, 0, 0)};

    private static void comersOneAtLeast() {
        sentence(14, "COMERS: a set of MEMBERS, as bits, one at least. OUTSIDE: comers");
        for (int i = 0; i < OF_COMERS.length; i++) {
            OfComers call = OF_COMERS[i];
            for (int comers : new int[] {1, 3, 17, 31}) {
                due("call " + i + " of comers " + comers + " is taken", call.ask(someClub(), comers) >= NONE ? 1 : 0, 1);
            }
            for (int comers : new int[] {0, 32, 33, 63, 128, 256, -1, -31, Integer.MIN_VALUE, Integer.MIN_VALUE + 1, Integer.MAX_VALUE}) {
                refused(Boundary::someClub, "call " + i + " of comers " + comers, x -> call.ask(x, comers), OUTSIDE);
            }
        }
    }

    private static void comersOfEight() {
        sentence(14, "COMERS: a set of MEMBERS, of eight");
        for (int i = 0; i < OF_COMERS.length; i++) {
            OfComers call = OF_COMERS[i];
            for (int comers : new int[] {1, 129, 255}) {
                due("call " + i + " of comers " + comers + " is taken", call.ask(fullClub(), comers) >= NONE ? 1 : 0, 1);
            }
            for (int comers : new int[] {0, 256, 257, 511, -1}) {
                refused(Boundary::fullClub, "call " + i + " of comers " + comers, x -> call.ask(x, comers), OUTSIDE);
            }
        }
    }

    private static void comersOfNobody() {
        sentence(19, "OUTSIDE: COMERS that are none, of no MEMBERS");
        for (int comers : new int[] {0, 1, 255, -1}) {
            refused(BlackBalls::new, "best(" + comers + ")", x -> x.best(comers), OUTSIDE);
            refused(() -> withRules("b1q0y"), "best(" + comers + ") of a rule", x -> x.best(comers), OUTSIDE);
            refused(() -> withRules("b1q0y"), "wrong(0, " + comers + ")", x -> x.wrong(0, comers), OUTSIDE);
            refused(() -> withRules("b1q0y"), "word(0, " + comers + ", 5)", x -> x.word(0, comers, 5), OUTSIDE);
            refused(() -> withRules("b1q0y"), "seen(0, " + comers + ", 5, 0)", x -> x.seen(0, comers, 5, 0), OUTSIDE);
        }
    }

    private static void memberIsNoneOfThem() {
        sentence(14, "or the MEMBER is none of them");
        for (int member = 0; member < 5; member++) {
            int who = member;
            int others = 31 & ~(1 << member);
            due("black, alone", someClub().black(0, 0, 1 << member, member) >= 0 ? 1 : 0, 1);
            refused(Boundary::someClub, "black, " + member, x -> x.black(0, 0, others, who), OUTSIDE);
            refused(Boundary::someClub, "who, " + member, x -> x.who(0, 0, others, who, 0, 0), OUTSIDE);
            refused(Boundary::someClub, "heard, " + member, x -> x.heard(0, 0, others, who, 5, true, 0), OUTSIDE);
        }
        refused(Boundary::fullClub, "black, the last of eight", x -> x.black(0, 0, 127, 7), OUTSIDE);
        due("black, the last of eight, alone", fullClub().black(0, 0, 128, 7), 5);
    }

    // ---- BLACK

    private static void friendPutsNone() {
        sentence(14, "0, if it is the FRIEND");
        int[][] kinds = {{0, 0}, {1, 0}, {2, 5}, {3, 0}, {4, 0}};
        for (int[] kind : kinds) {
            BlackBalls x = withMembers(1, "b1q0y");
            x.member(kind[0], kind[1], 10);
            x.candidate(1);
            x.minds(1, 0, 10);
            due("kind " + kind[0] + " minds by 10", x.black(0, 0, 3, 1), 0);
            x.minds(1, 0, 0);
            due("kind " + kind[0] + " minds by 0", x.black(0, 0, 3, 1), 0);
        }
        BlackBalls last = sevenMind(10, "b1q0y");
        last.minds(7, 0, 10);
        due("the last of eight", last.black(0, 0, 255, 7), 0);
        due("the one ahead of it", last.black(0, 0, 255, 6), 10);
    }

    /** Five members; the second one is FEARED, the first one put the candidate up. */
    private static BlackBalls oneFeared(int minds, String rule) {
        BlackBalls x = withMembers(1, rule);
        x.member(1, 0, 10);
        for (int i = 0; i < 3; i++) {
            x.member(0, 0, 10);
        }
        x.candidate(0);
        x.minds(1, 0, minds);
        return x;
    }

    private static void fearedHalf() {
        sentence(14, "of a FEARED half of that (rounded down)");
        int[] half = {0, 0, 1, 1, 2, 2, 3, 3, 4, 4, 5};
        for (int minds = 0; minds <= 10; minds++) {
            due("minds by " + minds, oneFeared(minds, "b1q0c").black(0, 0, 31, 1), half[minds]);
        }
    }

    private static void fearedByTheCount() {
        sentence(14, "if THE COUNT is told");
        due("told, five came", oneFeared(9, "b1q0c").black(0, 0, 31, 1), 4);
        due("told, four came", oneFeared(9, "b1q0tc").black(0, 0, 15, 1), 4);
        due("not told, five came", oneFeared(9, "b1q0ty").black(0, 0, 31, 1), 9);
    }

    private static void fearedFewerThan4() {
        sentence(14, "or fewer than 4 came");
        int[] comers = {2, 3, 7, 19, 15, 27, 31};
        int[] black = {4, 4, 4, 4, 9, 9, 9};
        for (int i = 0; i < comers.length; i++) {
            due("comers " + comers[i], oneFeared(9, "b1q0y").black(0, 0, comers[i], 1), black[i]);
            due("comers " + comers[i] + ", count told", oneFeared(9, "b1q0c").black(0, 0, comers[i], 1), 4);
        }
    }

    private static void mistaken() {
        sentence(14, "of a MISTAKEN (MINDS times what n lacks of 10, and n times what MINDS lacks of 10) by 10, rounded down");
        int[][] black = {
            {0, 1, 2, 3, 4, 5, 6, 7, 8, 9, 10},
            {1, 1, 2, 3, 4, 5, 5, 6, 7, 8, 9},
            {2, 2, 3, 3, 4, 5, 5, 6, 6, 7, 8},
            {3, 3, 3, 4, 4, 5, 5, 5, 6, 6, 7},
            {4, 4, 4, 4, 4, 5, 5, 5, 5, 5, 6},
            {5, 5, 5, 5, 5, 5, 5, 5, 5, 5, 5}};
        for (int n = 0; n <= 5; n++) {
            BlackBalls x = withMembers(1, "b1q0y");
            x.member(2, n, 10);
            x.candidate(0);
            for (int minds = 0; minds <= 10; minds++) {
                x.minds(1, 0, minds);
                due("n " + n + ", minds by " + minds, x.black(0, 0, 3, 1), black[n][minds]);
            }
        }
    }

    private static void vengeful() {
        sentence(14, "of a VENGEFUL 10, if the FRIEND is n, else as it MINDS");
        for (int minds : new int[] {0, 5, 10}) {
            BlackBalls x = withMembers(2, "b1q0y");
            x.member(3, 0, 10);
            x.candidate(0);
            x.candidate(1);
            x.minds(2, 0, minds);
            x.minds(2, 1, minds);
            due("n put it up, minds by " + minds, x.black(0, 0, 7, 2), 10);
            due("n put it up, and did not come", x.black(0, 0, 4, 2), 10);
            due("another did, minds by " + minds, x.black(0, 1, 7, 2), minds);
        }
    }

    private static void traded() {
        sentence(14, "of a TRADED 0, if the FRIEND is n, else as it MINDS");
        for (int minds : new int[] {0, 5, 10}) {
            BlackBalls x = withMembers(2, "b1q0y");
            x.member(4, 1, 10);
            x.candidate(0);
            x.candidate(1);
            x.minds(2, 0, minds);
            x.minds(2, 1, minds);
            due("n put it up, minds by " + minds, x.black(0, 1, 7, 2), 0);
            due("another did, minds by " + minds, x.black(0, 0, 7, 2), minds);
        }
    }

    // ---- a ROUND

    private static void ballsFrom0To8() {
        sentence(15, "How likely k black balls are put in a ROUND; k (0 to 8)");
        for (int came = 1; came <= 8; came++) {
            for (int blacks = 0; blacks <= Math.min(came, 7); blacks++) {
                BlackBalls x = sureBlacks(blacks, "b1q0y");
                for (int k = 0; k <= 8; k++) {
                    String call = k + " of " + blacks + " sure ones, " + came + " came";
                    fraction(call, x.balls(0, 0, firstOnes(came), k, 0), x.balls(0, 0, firstOnes(came), k, 1), k == blacks ? 1 : 0, 1);
                }
            }
        }
        BlackBalls x = oneMinds(5, "b1q0y");
        fraction("none of a half", x.balls(0, 0, 1, 0, 0), x.balls(0, 0, 1, 0, 1), 1, 2);
        fraction("one of a half", x.balls(0, 0, 1, 1, 0), x.balls(0, 0, 1, 1, 1), 1, 2);
        fraction("more than came", x.balls(0, 0, 1, 2, 0), x.balls(0, 0, 1, 2, 1), 0, 1);
    }

    private static void ballsOfEight() {
        sentence(15, "in lowest terms: part 0 above, 1 below, of eight COMERS");
        BlackBalls x = sevenMind(1, "b1q0y");
        // 0.9 to the 7, 7 times 0.1 by 0.9 to the 6, 0.1 to the 7; the friend puts none.
        fraction("none", x.balls(0, 0, 255, 0, 0), x.balls(0, 0, 255, 0, 1), 4782969, 10_000_000);
        fraction("one", x.balls(0, 0, 255, 1, 0), x.balls(0, 0, 255, 1, 1), 3720087, 10_000_000);
        fraction("seven", x.balls(0, 0, 255, 7, 0), x.balls(0, 0, 255, 7, 1), 1, 10_000_000);
        fraction("eight", x.balls(0, 0, 255, 8, 0), x.balls(0, 0, 255, 8, 1), 0, 1);
    }

    /** Whether all calls that tell it say that so many sure black ones of so many let in, or that they do not. */
    private static void dueIn(String rule, int blacks, int came, boolean in) {
        BlackBalls x = sureBlacks(blacks, rule);
        String call = rule + ", " + blacks + " black ones of " + came;
        int comers = firstOnes(came);
        fraction(call, x.in(0, 0, comers, 0), x.in(0, 0, comers, 1), in ? 1 : 0, 1);
        due(call + ", an evening", x.evening(0, 0, comers, 99, 1), in ? 1 : 0);
        due(call + ", withdraws", x.word(0, comers, 10), in ? 0 : 1);
    }

    private static void blacksOrMore() {
        sentence(16, "It SHUTS OUT, if there are BLACKS black ones or more");
        for (int most = 1; most <= 8; most++) {
            for (int came = 1; came <= 8; came++) {
                for (int blacks = 0; blacks <= Math.min(came, 7); blacks++) {
                    dueIn("b" + most + "q0y", blacks, came, blacks < most);
                }
            }
        }
    }

    private static void ratioAsManyAsComers() {
        sentence(16, "(RATIO times the black ones is as many as COMERS, or more)");
        for (int ratio = 2; ratio <= 20; ratio++) {
            for (int came = 1; came <= 8; came++) {
                for (int blacks = 0; blacks <= Math.min(came, 7); blacks++) {
                    dueIn("r" + ratio + "q0y", blacks, came, ratio * blacks < came);
                }
            }
        }
    }

    private static void quorumOrMore() {
        sentence(16, "A CANDIDATE is LET IN, if QUORUM or more came");
        for (int quorum = 0; quorum <= 8; quorum++) {
            for (int came = 1; came <= 8; came++) {
                dueIn("b8q" + quorum + "y", 0, came, came >= quorum);
                dueIn("r2q" + quorum + "tc", 0, came, came >= quorum);
            }
        }
    }

    private static void twiceASecondOne() {
        sentence(16, "TWICE: or a second one, if the first one does");
        int[][] once = {{1, 1}, {9, 10}, {4, 5}, {7, 10}, {3, 5}, {1, 2}, {2, 5}, {3, 10}, {1, 5}, {1, 10}, {0, 1}};
        int[][] twice = {{1, 1}, {99, 100}, {24, 25}, {91, 100}, {21, 25}, {3, 4}, {16, 25}, {51, 100}, {9, 25}, {19, 100}, {0, 1}};
        for (int minds = 0; minds <= 10; minds++) {
            BlackBalls x = oneMinds(minds, "b1q0y", "b1q0ty");
            fraction("once, minds by " + minds, x.in(0, 0, 3, 0), x.in(0, 0, 3, 1), once[minds][0], once[minds][1]);
            fraction("twice, minds by " + minds, x.in(1, 0, 3, 0), x.in(1, 0, 3, 1), twice[minds][0], twice[minds][1]);
        }
        BlackBalls x = oneMinds(5, "b1q3ty");
        fraction("fewer than quorum, twice", x.in(0, 0, 3, 0), x.in(0, 0, 3, 1), 0, 1);
    }

    private static void inOfEight() {
        sentence(16, "IN, in lowest terms, of eight COMERS");
        BlackBalls x = sevenMind(1, "b1q8y", "b1q8ty", "b7q8y", "b7q8ty");
        fraction("once", x.in(0, 0, 255, 0), x.in(0, 0, 255, 1), 4782969, 10_000_000);
        long below = 100_000_000_000_000L;
        fraction("twice", x.in(1, 0, 255, 0), x.in(1, 0, 255, 1), below - 5217031L * 5217031L, below);
        fraction("all but sure", x.in(2, 0, 255, 0), x.in(2, 0, 255, 1), 9_999_999, 10_000_000);
        fraction("all but sure, twice", x.in(3, 0, 255, 0), x.in(3, 0, 255, 1), below - 1, below);
    }

    // ---- AT LARGE

    private static void largeByNobody() {
        sentence(17, "(by nobody nobody is LET IN)");
        BlackBalls x = withRules("b8q0y", "r20q0c");
        x.member(0, 0, 0);
        x.member(1, 0, 0);
        x.candidate(0);
        for (int rule = 0; rule < 2; rule++) {
            fraction("nobody ever comes", x.large(rule, 0, 0), x.large(rule, 0, 1), 0, 1);
        }
        x.comes(0, 1);
        fraction("one comes in a tenth", x.large(0, 0, 0), x.large(0, 0, 1), 1, 10);
        x.comes(1, 5);
        fraction("nobody comes in 45 of 100", x.large(0, 0, 0), x.large(0, 0, 1), 11, 20);
        x.comes(1, 10);
        fraction("one always comes", x.large(0, 0, 0), x.large(0, 0, 1), 1, 1);
    }

    private static void largeBySureOnes() {
        sentence(17, "the same, if each MEMBER comes as COMES tells, 0 or 10");
        BlackBalls x = sevenMind(3, "b2q2y");
        for (int comers = 1; comers < 256; comers = 2 * comers + 1) {
            for (int member = 0; member < 8; member++) {
                x.comes(member, 10 * (comers >> member & 1));
            }
            fraction("just " + comers + " come", x.large(0, 0, 0), x.large(0, 0, 1), x.in(0, 0, comers, 0), x.in(0, 0, comers, 1));
        }
    }

    private static void largeByQuorum() {
        sentence(17, "AT LARGE, if QUORUM or more came");
        BlackBalls x = withMembers(2, "b8q0y", "b8q1y", "b8q2y", "b8q3y", "b8q8y");
        x.candidate(0);
        x.comes(0, 5);
        x.comes(1, 5);
        int[][] want = {{3, 4}, {3, 4}, {1, 4}, {0, 1}, {0, 1}};
        for (int rule = 0; rule < 5; rule++) {
            fraction("rule " + rule, x.large(rule, 0, 0), x.large(rule, 0, 1), want[rule][0], want[rule][1]);
        }
        BlackBalls eight = withMembers(8, "b8q8y");
        eight.candidate(0);
        fraction("all eight come", eight.large(0, 0, 0), eight.large(0, 0, 1), 1, 1);
        eight.comes(7, 9);
        fraction("the eighth comes in 9 of 10", eight.large(0, 0, 0), eight.large(0, 0, 1), 9, 10);
    }

    private static void largeByBlackOnes() {
        sentence(17, "AT LARGE, by BLACKS black ones or more, by RATIO");
        BlackBalls x = sureBlacks(7, "b1q0y", "b3q0y", "b8q0y", "r2q0y");
        int[][] want = {{0, 1}, {3, 4}, {1, 1}, {0, 1}};
        for (int member = 0; member < 8; member++) {
            x.comes(member, member == 0 ? 10 : member < 3 ? 5 : 0);
        }
        // One to three come, and all of them put a black one.
        for (int rule = 0; rule < 4; rule++) {
            fraction("rule " + rule, x.large(rule, 0, 0), x.large(rule, 0, 1), want[rule][0], want[rule][1]);
        }
    }

    private static void largeFearedCountAll() {
        sentence(17, "but FEARED ones count all MEMBERS as come");
        for (int members = 2; members <= 8; members++) {
            BlackBalls x = withRules("b1q0y", "b1q0c");
            x.member(0, 0, 0);
            x.member(1, 0, 10);
            for (int i = 2; i < members; i++) {
                x.member(0, 0, 0);
            }
            x.candidate(0);
            x.minds(1, 0, 9);
            boolean afraid = members < 4;
            fraction("of " + members + " one comes", x.large(0, 0, 0), x.large(0, 0, 1), afraid ? 3 : 1, afraid ? 5 : 10);
            fraction("of " + members + ", count told", x.large(1, 0, 0), x.large(1, 0, 1), 3, 5);
        }
    }

    private static void largeOfEight() {
        sentence(17, "AT LARGE, in lowest terms, of eight MEMBERS");
        BlackBalls x = sevenMind(3, "b1q0y");
        for (int member = 0; member < 8; member++) {
            x.comes(member, 9);
        }
        // Each of seven puts no black one in 0.73; nobody comes in 0.1 to the 8.
        fraction("0.73 to the 7, less 0.1 to the 8", x.large(0, 0, 0), x.large(0, 0, 1), 11_047_397_519_097L, 100_000_000_000_000L);
    }

    private static void largeTwice() {
        sentence(17, "STATE: the RULE is TWICE.");
        refused(Boundary::someClub, "large(1, 0, 0)", x -> x.large(1, 0, 0), STATE);
        refused(Boundary::someClub, "large(1, 0, 1)", x -> x.large(1, 0, 1), STATE);
        due("one not twice is taken", someClub().large(0, 0, 1) > 0 ? 1 : 0, 1);
        refused(Boundary::someClub, "part 2 goes ahead", x -> x.large(1, 0, 2), OUTSIDE);
        refused(Boundary::someClub, "part -1 goes ahead", x -> x.large(1, 0, -1), OUTSIDE);
        refused(Boundary::someClub, "candidate 3 goes ahead", x -> x.large(1, 3, 0), UNKNOWN);
    }

    // ---- WRONG, BEST

    private static void wrongOfNoCandidates() {
        sentence(18, "WRONG of a RULE and COMERS: of all CANDIDATES, together; of none");
        due("one comer", withMembers(1, "b1q0y").wrong(0, 1), 0);
        due("eight comers", withMembers(8, "b1q0y").wrong(0, 255), 0);
    }

    private static void wrongOfMindedOrNot() {
        sentence(18, "of all CANDIDATES IN, if they are MINDED, else what IN lacks of 1");
        BlackBalls x = withMembers(3, "b1q0y");
        x.candidate(0);
        x.minds(1, 0, 4);
        x.minds(2, 0, 5);
        due("one minds by 4: 1 less 0.6 by 0.5", x.wrong(0, 7), 700_000);
        x.minds(1, 0, 5);
        due("both by 5: 0.5 by 0.5", x.wrong(0, 7), 250_000);
        due("minded by those who did not come", x.wrong(0, 1), 100);
    }

    private static void wrongOfAll() {
        sentence(18, "by 10 to the how-many COMERS there are, squared (a whole number)");
        for (int candidates = 1; candidates <= 6; candidates++) {
            BlackBalls x = withMembers(8, "b1q0y");
            for (int candidate = 0; candidate < candidates; candidate++) {
                x.candidate(7);
                x.minds(0, candidate, 10);
            }
            due(candidates + " that one minds are shut out", x.wrong(0, 255), candidates * TENS_OF_EIGHT_SQUARED);
            due("by one comer", x.wrong(0, 1), candidates * 100L);
            due("by one who does not mind", x.wrong(0, 2), 0);
        }
    }

    private static void bestOfNoRules() {
        sentence(19, "NONE: there are no RULES.");
        due("one member", withMembers(1).best(1), NONE);
        due("eight members", withMembers(8).best(255), NONE);
        BlackBalls x = withMembers(1, "b1q0y");
        due("of one rule", x.best(1), 0);
        refused(() -> withMembers(1), "comers that are none go ahead", y -> y.best(2), OUTSIDE);
    }

    private static void bestOfLikeOnes() {
        sentence(19, "BEST: the RULE of least WRONG, of like ones the least.");
        due("six that are alike, no candidates", withMembers(1, "b8q8c", "b1q0y", "r2q0y", "b1q0y", "b1q0y", "b1q0y").best(1), 0);
        BlackBalls x = oneMinds(5, "b1q8y", "b1q0y", "b1q0ty", "r20q0ty", "b1q0y", "b1q0ty");
        due("2, 3 and 5 are alike", x.best(3), 2);
        BlackBalls last = oneMinds(5, "b1q8y", "b1q8y", "b1q8y", "b1q0y", "b1q0y", "b1q0ty");
        due("the sixth", last.best(3), 5);
        BlackBalls close = sevenMind(1, "b6q0y", "b7q0y", "b7q0ty", "b8q0y", "b7q0ty", "b8q0c");
        due("less by one of 10 to the 14", close.best(255), 3);
    }

    // ---- WHO, HEARD

    private static void whoByCount() {
        sentence(20, "WHO: how likely a COMER put a black ball in a ROUND, if k black ones were counted; k (-1 to 8)");
        BlackBalls x = sevenMind(5, "b1q0y");
        for (int k = 0; k <= 7; k++) {
            // Each of seven as likely as the others: k of 7.
            int above = k == 0 ? 0 : k == 7 ? 1 : k;
            fraction(k + " counted", x.who(0, 0, 255, 0, k, 0), x.who(0, 0, 255, 0, k, 1), above, k % 7 == 0 ? 1 : 7);
            fraction(k + " counted, the friend", x.who(0, 0, 255, 7, k, 0), x.who(0, 0, 255, 7, k, 1), 0, 1);
        }
        fraction("eight cannot be", x.who(0, 0, 255, 0, 8, 0), x.who(0, 0, 255, 0, 8, 1), NONE, NONE);
        BlackBalls one = oneMinds(5, "b1q0y");
        fraction("none of one comer", one.who(0, 0, 1, 0, 0, 0), one.who(0, 0, 1, 0, 0, 1), 0, 1);
        fraction("one of one comer", one.who(0, 0, 1, 0, 1, 0), one.who(0, 0, 1, 0, 1, 1), 1, 1);
        fraction("two of one comer", one.who(0, 0, 1, 0, 2, 0), one.who(0, 0, 1, 0, 2, 1), NONE, NONE);
    }

    private static void whoShutOut() {
        sentence(20, "(NONE: if it SHUT OUT)");
        BlackBalls x = sevenMind(5, "b7q0y", "b6q0y", "r2q0y", "r8q0y");
        fraction("b7: all seven did", x.who(0, 0, 255, 0, NONE, 0), x.who(0, 0, 255, 0, NONE, 1), 1, 1);
        // Six or seven of seven: 7 and 1; with one's own: 6 and 1.
        fraction("b6", x.who(1, 0, 255, 0, NONE, 0), x.who(1, 0, 255, 0, NONE, 1), 7, 8);
        // Four or more of seven: 35, 21, 7, 1; with one's own: 20, 15, 6, 1.
        fraction("r2", x.who(2, 0, 255, 0, NONE, 0), x.who(2, 0, 255, 0, NONE, 1), 21, 32);
        // One or more of seven: all of 128 cases but one; with one's own: 64.
        fraction("r8", x.who(3, 0, 255, 0, NONE, 0), x.who(3, 0, 255, 0, NONE, 1), 64, 127);
    }

    private static void whoCannotBe() {
        sentence(20, "(NONE, both: it cannot be)");
        BlackBalls sure = sureBlacks(2, "b3q0y", "b2q0y");
        for (int k : new int[] {0, 1, 3, 8}) {
            fraction(k + " cannot be, two are sure", sure.who(0, 0, 255, 0, k, 0), sure.who(0, 0, 255, 0, k, 1), NONE, NONE);
        }
        fraction("two can be", sure.who(0, 0, 255, 0, 2, 0), sure.who(0, 0, 255, 0, 2, 1), 1, 1);
        fraction("it cannot shut out", sure.who(0, 0, 255, 0, NONE, 0), sure.who(0, 0, 255, 0, NONE, 1), NONE, NONE);
        fraction("it can shut out", sure.who(1, 0, 255, 0, NONE, 0), sure.who(1, 0, 255, 0, NONE, 1), 1, 1);
        fraction("it can shut out, another", sure.who(1, 0, 255, 2, NONE, 0), sure.who(1, 0, 255, 2, NONE, 1), 0, 1);
        BlackBalls eight = sevenMind(10, "b8q0y");
        fraction("b8 never shuts out", eight.who(0, 0, 255, 0, NONE, 0), eight.who(0, 0, 255, 0, NONE, 1), NONE, NONE);
    }

    private static void heardByRight() {
        sentence(21, "HEARD: how likely it did, if the box lets hear its side, rightly in so many tenths; right (0 to 10)");
        BlackBalls x = oneMinds(5, "b1q0y");
        int[][] want = {{0, 1}, {1, 10}, {1, 5}, {3, 10}, {2, 5}, {1, 2}, {3, 5}, {7, 10}, {4, 5}, {9, 10}, {1, 1}};
        for (int right = 0; right <= 10; right++) {
            fraction("right " + right + ", black", x.heard(0, 0, 1, 0, right, true, 0), x.heard(0, 0, 1, 0, right, true, 1),
                want[right][0], want[right][1]);
            fraction("right " + right + ", white", x.heard(0, 0, 1, 0, right, false, 0), x.heard(0, 0, 1, 0, right, false, 1),
                want[10 - right][0], want[10 - right][1]);
        }
    }

    private static void heardCannotBe() {
        sentence(21, "(NONE, both: it cannot be)");
        for (int minds = 0; minds <= 10; minds += 10) {
            BlackBalls x = oneMinds(minds, "b1q0y");
            int did = minds / 10;
            for (int right = 0; right <= 10; right++) {
                // A sure one's other side is heard just by a fault of the box.
                boolean blackCanBe = minds == 10 ? right > 0 : right < 10;
                boolean whiteCanBe = minds == 10 ? right < 10 : right > 0;
                fraction("minds by " + minds + ", right " + right + ", black", x.heard(0, 0, 1, 0, right, true, 0),
                    x.heard(0, 0, 1, 0, right, true, 1), blackCanBe ? did : NONE, blackCanBe ? 1 : NONE);
                fraction("minds by " + minds + ", right " + right + ", white", x.heard(0, 0, 1, 0, right, false, 0),
                    x.heard(0, 0, 1, 0, right, false, 1), whiteCanBe ? did : NONE, whiteCanBe ? 1 : NONE);
            }
        }
    }

    // ---- SWAY

    private static void swayOfTheOnlyOne() {
        sentence(22, "without the only one IN is 0");
        for (int member = 0; member < 8; member++) {
            due("the only one lets in", sureBlacks(0, "b1q0y").sway(0, 0, 1 << member), member);
            due("the only one shuts out", sureBlacks(7, "b1q0y").sway(0, 0, 1 << member), member);
        }
    }

    private static void swayOfLikeOnes() {
        sentence(22, "of like ones the least");
        due("nobody sways", sureBlacks(0, "b1q0y").sway(0, 0, 255), 0);
        due("nobody sways, of the last two", sureBlacks(0, "b1q0y").sway(0, 0, 192), 6);
        due("seven alike", sevenMind(5, "b1q0y").sway(0, 0, 255), 0);
        due("seven alike, of the last ones", sevenMind(5, "b1q0y").sway(0, 0, 252), 2);
        BlackBalls x = sevenMind(5, "b1q0y");
        x.minds(6, 0, 6);
        due("the seventh sways more", x.sway(0, 0, 255), 6);
        x.minds(5, 0, 6);
        due("the sixth and seventh alike", x.sway(0, 0, 255), 5);
    }

    private static void swayBySize() {
        sentence(22, "is another one most (by size)");
        BlackBalls less = sevenMind(5, "r2q0y");
        // Of three two black ones shut out, of two one does: 0.75, without the friend 0.25, without another one 0.5.
        due("less by 0.5, less by 0.25", less.sway(0, 0, 131), 7);
        BlackBalls more = withMembers(8, "b7q0y");
        more.candidate(0);
        for (int member = 1; member < 8; member++) {
            more.minds(member, 0, 1);
        }
        due("more by one of 10 to the 7, or not at all", more.sway(0, 0, 255), 1);
        BlackBalls close = sevenMind(1, "r2q0y");
        close.minds(5, 0, 0);
        // Of seven four shut out, of six three do: less by 0.0081 without the one who does not mind, else by 0.00324.
        due("less by a little, or by less", close.sway(0, 0, 191), 5);
    }

    private static void swayByQuorum() {
        sentence(22, "SWAY: the COMER without whom IN is another one most");
        due("each is needed for the quorum", sevenMind(0, "b8q8y").sway(0, 0, 255), 0);
        BlackBalls x = sevenMind(0, "r8q0y");
        x.minds(3, 0, 10);
        // One black one of eight shuts out; without the fourth there is none.
        due("the only black one", x.sway(0, 0, 255), 3);
        BlackBalls feared = oneFeared(9, "b1q0y");
        // By four 0.1, by three 0.6; without the feared one 1.
        due("fewer than 4 came without one", feared.sway(0, 0, 15), 1);
    }

    // ---- WORD, SEEN

    private static void wordLessThan() {
        sentence(23, "CANDIDATES that withdraw, as IN is less than so many tenths; tenths (0 to 10)");
        for (int minds = 0; minds <= 10; minds++) {
            BlackBalls x = oneMinds(minds, "b1q0y");
            for (int tenths = 0; tenths <= 10; tenths++) {
                due("in by " + (10 - minds) + " tenths, asked for " + tenths, x.word(0, 1, tenths), 10 - minds < tenths ? 1 : 0);
            }
        }
        BlackBalls six = withMembers(2, "b1q0y");
        for (int candidate = 0; candidate < 6; candidate++) {
            six.candidate(1);
            six.minds(0, candidate, 2 * candidate);
        }
        int[] bits = {0, 32, 32, 48, 48, 56, 56, 60, 60, 62, 62};
        for (int tenths = 0; tenths <= 10; tenths++) {
            due("six, asked for " + tenths, six.word(0, 3, tenths), bits[tenths]);
        }
    }

    private static void wordOfEight() {
        sentence(23, "as IN is less than so many tenths, of eight COMERS");
        due("one of 10 to the 14 lacks", sevenMind(1, "b7q0ty").word(0, 255, 10), 1);
        due("none lacks", sevenMind(1, "b8q0ty").word(0, 255, 10), 0);
        due("two of 10 to the 7, hardly", sevenMind(9, "b1q0ty").word(0, 255, 1), 1);
        due("of 0 nobody withdraws", sevenMind(10, "b1q0ty").word(0, 255, 0), 0);
        BlackBalls half = sevenMind(0, "b1q0y");
        half.minds(6, 0, 5);
        due("just 5 tenths", half.word(0, 255, 5), 0);
        due("less than 6 tenths", half.word(0, 255, 6), 1);
    }

    private static void wordOfNoCandidates() {
        sentence(23, "WORD, as bits of CANDIDATES, of none");
        for (int tenths = 0; tenths <= 10; tenths += 10) {
            BlackBalls x = withMembers(1, "b1q8y");
            due("word, " + tenths, x.word(0, 1, tenths), 0);
            fraction("seen, " + tenths, x.seen(0, 1, tenths, 0), x.seen(0, 1, tenths, 1), 0, 1);
        }
    }

    private static void seenOfNoneLeft() {
        sentence(24, "SEEN: how many are not LET IN on an average of those that do not withdraw; of none");
        BlackBalls x = oneMinds(5, "b1q0y");
        fraction("just 5 tenths", x.seen(0, 1, 5, 0), x.seen(0, 1, 5, 1), 1, 2);
        fraction("it withdraws by 6", x.seen(0, 1, 6, 0), x.seen(0, 1, 6, 1), 0, 1);
        fraction("it withdraws by 10", x.seen(0, 1, 10, 0), x.seen(0, 1, 10, 1), 0, 1);
        fraction("by 0", x.seen(0, 1, 0, 0), x.seen(0, 1, 0, 1), 1, 2);
    }

    private static void seenOfAll() {
        sentence(24, "SEEN, in lowest terms; tenths (0 to 10)");
        BlackBalls x = withMembers(8, "b1q0y", "b1q0ty");
        for (int candidate = 0; candidate < 6; candidate++) {
            x.candidate(7);
            x.minds(0, candidate, 10);
        }
        fraction("six are shut out by 0", x.seen(0, 255, 0, 0), x.seen(0, 255, 0, 1), 6, 1);
        fraction("all withdraw by 1", x.seen(0, 255, 1, 0), x.seen(0, 255, 1, 1), 0, 1);
        x.minds(0, 0, 9);
        fraction("1 less 0.1 by 0.1, and five", x.seen(1, 255, 0, 0), x.seen(1, 255, 0, 1), 581, 100);
        fraction("five withdraw by 1", x.seen(1, 255, 1, 0), x.seen(1, 255, 1, 1), 81, 100);
        fraction("all withdraw by 2", x.seen(1, 255, 2, 0), x.seen(1, 255, 2, 1), 0, 1);
        fraction("those who are sure by 10", x.seen(0, 254, 10, 0), x.seen(0, 254, 10, 1), 0, 1);
    }

    // ---- an EVENING

    private static long next(long seed) {
        return BigInteger.valueOf(1103515245).multiply(BigInteger.valueOf(seed)).add(BigInteger.valueOf(12345))
            .mod(BigInteger.ONE.shiftLeft(31)).longValueExact();
    }

    private static long seedBehind(long seed, int draws) {
        long s = seed;
        for (int i = 0; i < draws; i++) {
            s = next(s);
        }
        return s;
    }

    /** The least seed whose first DRAW of 10 is this one. */
    private static int seedThatDraws(int drawn) {
        int seed = 0;
        while (next(seed) / 65536 % 10 != drawn) {
            seed++;
        }
        return seed;
    }

    private static void eveningBelowQuorum() {
        sentence(25, "(no ROUND, if fewer than QUORUM came); NONE: there was none");
        for (int quorum = 0; quorum <= 8; quorum++) {
            BlackBalls x = sureBlacks(0, "b1q" + quorum + "y", "b1q" + quorum + "tc");
            // Those with a quorum first, so that nothing of them is left for those without.
            for (int came = 8; came >= 1; came--) {
                boolean held = came >= quorum;
                for (int rule = 0; rule < 2; rule++) {
                    String call = came + " came of quorum " + quorum + ", rule " + rule;
                    due(call + ", black ones", x.evening(rule, 0, firstOnes(came), 5, 0), held ? 0 : NONE);
                    due(call + ", let in", x.evening(rule, 0, firstOnes(came), 5, 1), held ? 1 : 0);
                    due(call + ", seed", x.evening(rule, 0, firstOnes(came), 5, 2), held ? seedBehind(5, came) : 5);
                }
            }
        }
        BlackBalls largest = sureBlacks(0, "b1q8y");
        due("no draw from the largest seed", largest.evening(0, 0, 127, Integer.MAX_VALUE, 2), Integer.MAX_VALUE);
        due("no draw from 0", largest.evening(0, 0, 127, 0, 2), 0);
    }

    private static void eveningDrawBelowBlack() {
        sentence(25, "puts a black ball, if a DRAW of 10 is below BLACK");
        for (int drawn = 0; drawn <= 9; drawn++) {
            int seed = seedThatDraws(drawn);
            for (int black = 0; black <= 10; black++) {
                BlackBalls x = oneMinds(black, "b1q0y");
                due("drawn " + drawn + ", black " + black, x.evening(0, 0, 1, seed, 0), drawn < black ? 1 : 0);
                due("drawn " + drawn + ", black " + black + ", let in", x.evening(0, 0, 1, seed, 1), drawn < black ? 0 : 1);
            }
            due("drawn " + drawn + ", the friend", oneMinds(0, "b1q0y").evening(0, 0, 2, seed, 0), 0);
        }
    }

    private static void eveningSeedWrapsAround() {
        sentence(25, "1103515245 times it and 12345, its rest by 2 to the 31");
        BlackBalls x = sevenMind(5, "b8q0y");
        for (int seed : new int[] {0, 1, 2, 12345, 65535, 65536, 1 << 30, (1 << 30) - 1, Integer.MAX_VALUE - 1, Integer.MAX_VALUE}) {
            due("one draw from " + seed, x.evening(0, 0, 1, seed, 2), seedBehind(seed, 1));
            due("eight draws from " + seed, x.evening(0, 0, 255, seed, 2), seedBehind(seed, 8));
            int blacks = 0;
            for (int i = 1; i <= 7; i++) {
                blacks += seedBehind(seed, i) / 65536 % 10 < 5 ? 1 : 0;
            }
            due("black ones from " + seed, x.evening(0, 0, 255, seed, 0), blacks);
        }
    }

    private static void eveningTwice() {
        sentence(25, "TWICE: again, if it SHUT OUT; how many black balls in the last ROUND");
        BlackBalls sure = sureBlacks(7, "b7q8ty", "b8q8ty", "b7q8y");
        due("shut out twice: seven in the last", sure.evening(0, 0, 255, 3, 0), 7);
        due("shut out twice", sure.evening(0, 0, 255, 3, 1), 0);
        due("shut out twice: 16 draws", sure.evening(0, 0, 255, 3, 2), seedBehind(3, 16));
        due("let in at first: 8 draws", sure.evening(1, 0, 255, 3, 2), seedBehind(3, 8));
        due("let in at first", sure.evening(1, 0, 255, 3, 1), 1);
        due("not twice: 8 draws", sure.evening(2, 0, 255, 3, 2), seedBehind(3, 8));
        BlackBalls x = oneMinds(1, "b1q0ty", "b1q0y");
        // From 0 it draws 0, then 8.
        due("the first shuts out, the second does not: none black", x.evening(0, 0, 1, 0, 0), 0);
        due("let in by the second", x.evening(0, 0, 1, 0, 1), 1);
        due("two draws", x.evening(0, 0, 1, 0, 2), seedBehind(0, 2));
        due("one round: one black", x.evening(1, 0, 1, 0, 0), 1);
        due("one round: not let in", x.evening(1, 0, 1, 0, 1), 0);
    }

    private static void eveningSeedFrom0() {
        sentence(25, "OUTSIDE: seed (0 at least), what, too.");
        for (int seed : new int[] {-1, -2, Integer.MIN_VALUE}) {
            refused(Boundary::someClub, "seed " + seed, x -> x.evening(0, 0, 31, seed, 2), OUTSIDE);
        }
        due("seed 0", oneMinds(0, "b1q0y").evening(0, 0, 1, 0, 2), 12345);
        due("the largest seed", oneMinds(0, "b1q0y").evening(0, 0, 1, Integer.MAX_VALUE, 2), next(Integer.MAX_VALUE));
        for (int what : new int[] {-1, 3, Integer.MIN_VALUE, Integer.MAX_VALUE}) {
            refused(Boundary::someClub, "what " + what, x -> x.evening(0, 0, 31, 7, what), OUTSIDE);
        }
        refused(() -> sureBlacks(0, "b1q8y"), "what 3, below quorum", x -> x.evening(0, 0, 1, 7, 3), OUTSIDE);
        refused(() -> sureBlacks(0, "b1q8y"), "seed -1, below quorum", x -> x.evening(0, 0, 1, -1, 2), OUTSIDE);
    }
}
