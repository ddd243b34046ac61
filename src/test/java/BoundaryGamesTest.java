/** The boundary cases of promises 26 to 30: a trade, a veto, a club of many years, a lot. */
public final class BoundaryGamesTest extends Boundary {
    public static void main(String[] args) {
        tradeOfTheSame();
        tradeOfNobody();
        tradeByGain();
        tradeByWhiteBalls();
        tradeOthersBy5();
        tradeByQuorum();
        tradeByRatio();
        tradeTwice();
        tradeOfEight();
        vetoNoneLeft();
        vetoIsMore();
        vetoOutside();
        worthOfFewAndMany();
        worthOutside();
        noYears();
        yearsBelowQuorum();
        yearsJustAtQuorum();
        yearsThatLoseTheQuorum();
        yearsByNobody();
        yearsByTastes();
        yearsTwice();
        yearsSeed();
        yearsOutside();
        yearsOfNoRule();
        lotOfMindedOnes();
        lotOfNobody();
        end();
    }

    // ---- a TRADE

    /** Plain members; the first two trade; the first one put up a, the second one b. */
    private static BlackBalls traders(int members, String... rules) {
        BlackBalls x = withMembers(members, rules);
        x.candidate(0);
        x.candidate(1);
        return x;
    }

    private static void tradeOfTheSame() {
        sentence(26, "UNKNOWN: x, y (or they are the same), a, b (or they are the same)");
        for (int member = 0; member < 5; member++) {
            int who = member;
            refused(Boundary::someClub, "x and y " + member, x -> x.trade(0, who, who, 0, 1), UNKNOWN);
        }
        for (int candidate = 0; candidate < 3; candidate++) {
            int whom = candidate;
            refused(Boundary::someClub, "a and b " + candidate, x -> x.trade(0, 0, 1, whom, whom), UNKNOWN);
        }
        refused(() -> withMembers(1, "b1q0y"), "of one member", x -> x.trade(0, 0, 0, 0, 0), UNKNOWN);
        due("like numbers of a member and a candidate", traders(2, "b8q0y").trade(0, 0, 1, 0, 1), 15);
    }

    private static void tradeOfNobody() {
        sentence(26, "UNKNOWN: rule, x, y, a, b");
        for (int off : new int[] {-1, 5, Integer.MIN_VALUE, Integer.MAX_VALUE}) {
            refused(Boundary::someClub, "rule " + off, x -> x.trade(off, 0, 1, 0, 1), UNKNOWN);
            refused(Boundary::someClub, "x " + off, x -> x.trade(0, off, 1, 0, 1), UNKNOWN);
            refused(Boundary::someClub, "y " + off, x -> x.trade(0, 0, off, 0, 1), UNKNOWN);
            refused(Boundary::someClub, "a " + off, x -> x.trade(0, 0, 1, off, 1), UNKNOWN);
            refused(Boundary::someClub, "b " + off, x -> x.trade(0, 0, 1, 0, off), UNKNOWN);
        }
        refused(Boundary::someClub, "rule 2 of two", x -> x.trade(2, 0, 1, 0, 1), UNKNOWN);
        refused(Boundary::someClub, "a 3 of three", x -> x.trade(0, 0, 1, 3, 1), UNKNOWN);
        refused(Boundary::someClub, "b 3 of three", x -> x.trade(0, 0, 1, 0, 3), UNKNOWN);
        refused(BlackBalls::new, "of nothing", x -> x.trade(0, 0, 1, 0, 1), UNKNOWN);
    }

    /** The ways that rest, if x is better off (1), no better off (0) or worse off (-1) by a black ball, and y by its own. */
    private static int resting(int x, int y) {
        int ways = 0;
        for (int way = 0; way < 4; way++) {
            boolean xRests = (way & 1) == 1 ? x >= 0 : x <= 0;
            boolean yRests = (way & 2) == 2 ? y >= 0 : y <= 0;
            ways |= xRests && yRests ? 1 << way : 0;
        }
        return ways;
    }

    private static void tradeByGain() {
        sentence(26, "It RESTS, if neither has more GAIN by its other ball alone.");
        for (int minds = 0; minds <= 10; minds++) {
            BlackBalls x = traders(2, "b1q0y");
            for (int other = 0; other <= 10; other++) {
                x.minds(0, 1, minds);
                x.minds(1, 0, other);
                int want = resting(Integer.signum(minds - 5), Integer.signum(other - 5));
                due("x minds b by " + minds + ", y minds a by " + other, x.trade(0, 0, 1, 0, 1), want);
            }
        }
        due("both by 5: all rest", resting(0, 0), 15);
        due("both by more: both black", resting(1, 1), 8);
    }

    private static void tradeByWhiteBalls() {
        sentence(26, "x puts a white ball for a, y for b");
        BlackBalls x = traders(2, "b1q0y");
        x.minds(0, 0, 10);
        x.minds(1, 1, 10);
        // Were either black, nothing that the other does would matter, and all would rest.
        due("though each minds its own by 10", x.trade(0, 0, 1, 0, 1), 1);
        x.minds(0, 1, 10);
        x.minds(1, 0, 10);
        due("though each minds both by 10", x.trade(0, 0, 1, 0, 1), 8);
    }

    private static void tradeOthersBy5() {
        sentence(26, "all others put a black one just for whom they mind by 5 or more");
        for (int minds = 0; minds <= 10; minds++) {
            BlackBalls x = traders(3, "b1q0y", "b2q0y");
            x.minds(2, 0, minds);
            x.minds(2, 1, minds);
            boolean black = minds >= 5;
            due("one black one shuts out, a third minds by " + minds, x.trade(0, 0, 1, 0, 1), black ? 15 : 1);
            due("two black ones shut out, a third minds by " + minds, x.trade(1, 0, 1, 0, 1), black ? 1 : 15);
        }
        BlackBalls kinds = traders(2, "b1q0y");
        kinds.member(3, 0, 10);
        kinds.member(1, 0, 10);
        kinds.minds(3, 1, 5);
        due("a vengeful one just as it minds, a feared one not by half", kinds.trade(0, 0, 1, 0, 1), 1 | 2);
    }

    private static void tradeByQuorum() {
        sentence(26, "all MEMBERS come");
        for (int members = 2; members <= 8; members++) {
            for (int quorum = 0; quorum <= 8; quorum++) {
                BlackBalls x = traders(members, "b1q" + quorum + "y");
                x.comes(0, 0);
                due(members + " members, quorum " + quorum, x.trade(0, 0, 1, 0, 1), members >= quorum ? 1 : 15);
            }
        }
    }

    private static void tradeByRatio() {
        sentence(26, "by a RULE: RATIO times the black ones is as many as all MEMBERS, or more");
        for (int members = 2; members <= 8; members++) {
            for (int ratio = 2; ratio <= 20; ratio++) {
                BlackBalls x = traders(members, "r" + ratio + "q0y");
                due(members + " members, ratio " + ratio, x.trade(0, 0, 1, 0, 1), ratio >= members ? 1 : 15);
            }
        }
    }

    private static void tradeTwice() {
        sentence(26, "TWICE, by balls that are the same in a second ROUND");
        BlackBalls x = traders(3, "b1q0ty", "b2q0ty");
        due("one black one", x.trade(0, 0, 1, 0, 1), 1);
        due("two are needed", x.trade(1, 0, 1, 0, 1), 15);
    }

    private static void tradeOfEight() {
        sentence(26, "those that REST, as bits of 0 to 3, of eight MEMBERS and six CANDIDATES");
        BlackBalls x = withMembers(8, "b7q8y", "b8q8y");
        for (int i = 0; i < 6; i++) {
            x.candidate(0);
        }
        for (int member = 0; member < 6; member++) {
            x.minds(member, 4, 5);
            x.minds(member, 5, 5);
        }
        x.minds(7, 4, 10);
        // Six others put a black one for each; a seventh shuts out.
        due("x wants b out, y wants a in", x.trade(0, 7, 6, 5, 4), 2);
        due("the other way round", x.trade(0, 6, 7, 4, 5), 4);
        due("eight cannot be", x.trade(1, 7, 6, 5, 4), 15);
    }

    // ---- a VETO

    private static void vetoNoneLeft() {
        sentence(27, "with v VETOES left (0 to 3); none");
        for (int n = 1; n <= 8; n++) {
            for (int minded = 0; minded <= 10; minded++) {
                due("n " + n + ", minded by " + minded, new BlackBalls().veto(n, 0, minded), 0);
            }
        }
    }

    private static void vetoIsMore() {
        sentence(27, "USED for x, if x and what is to be expected then with one less is more than what is to be expected with all");
        // The least x it is used for, of n evenings with 1, 2, 3; of 2 with 1 and of 4 with 2 a 5 is just as much, not more.
        int[][] least = {{1, 1, 1}, {6, 1, 1}, {7, 4, 1}, {8, 6, 3}, {8, 6, 5}, {9, 7, 6}, {9, 7, 6}, {9, 8, 7}};
        for (int n = 1; n <= 8; n++) {
            for (int v = 1; v <= 3; v++) {
                for (int minded = 0; minded <= 10; minded++) {
                    String call = "n " + n + ", v " + v + ", minded by " + minded;
                    due(call, new BlackBalls().veto(n, v, minded), minded >= least[n - 1][v - 1] ? 1 : 0);
                }
            }
        }
    }

    private static void vetoOutside() {
        sentence(27, "OUTSIDE: n, v, x (0 to 10).");
        for (int n : new int[] {0, -1, 9, Integer.MIN_VALUE, Integer.MAX_VALUE}) {
            refused(Boundary::someClub, "n " + n, x -> x.veto(n, 1, 5), OUTSIDE);
            refused(Boundary::someClub, "n " + n + ", none left", x -> x.veto(n, 0, 5), OUTSIDE);
        }
        for (int v : new int[] {-1, 4, Integer.MIN_VALUE, Integer.MAX_VALUE}) {
            refused(Boundary::someClub, "v " + v, x -> x.veto(8, v, 5), OUTSIDE);
        }
        for (int minded : new int[] {-1, 11, Integer.MIN_VALUE, Integer.MAX_VALUE}) {
            refused(Boundary::someClub, "x " + minded, x -> x.veto(8, 3, minded), OUTSIDE);
            refused(Boundary::someClub, "x " + minded + ", none left", x -> x.veto(8, 0, minded), OUTSIDE);
        }
    }

    private static void worthOfFewAndMany() {
        sentence(28, "WORTH: what is to be expected in all of n evenings (1 to 8) with v (0 to 3)");
        long[][][] want = {
            {{0, 1}, {5, 1}, {5, 1}, {5, 1}},
            {{0, 1}, {70, 11}, {10, 1}, {10, 1}},
            {{0, 1}, {864, 121}, {1469, 121}, {15, 1}},
            {{0, 1}, {10179, 1331}, {1634, 121}, {23489, 1331}},
            {{0, 1}, {117369, 14641}, {211979, 14641}, {285184, 14641}},
            {{0, 1}, {1334500, 161051}, {2451123, 161051}, {305149, 14641}},
            {{0, 1}, {15070469, 1771561}, {27971595, 1771561}, {38837489, 1771561}},
            {{0, 1}, {169293880, 19487171}, {316816314, 19487171}, {443981877, 19487171}}};
        BlackBalls x = new BlackBalls();
        for (int n = 1; n <= 8; n++) {
            for (int v = 0; v <= 3; v++) {
                fraction("n " + n + ", v " + v, x.worth(n, v, 0), x.worth(n, v, 1), want[n - 1][v][0], want[n - 1][v][1]);
            }
        }
    }

    private static void worthOutside() {
        sentence(28, "OUTSIDE.");
        for (int n : new int[] {0, -1, 9, Integer.MIN_VALUE, Integer.MAX_VALUE}) {
            refused(Boundary::someClub, "n " + n, x -> x.worth(n, 1, 0), OUTSIDE);
        }
        for (int v : new int[] {-1, 4, Integer.MIN_VALUE, Integer.MAX_VALUE}) {
            refused(Boundary::someClub, "v " + v, x -> x.worth(8, v, 0), OUTSIDE);
        }
        for (int part : new int[] {-1, 2, Integer.MIN_VALUE, Integer.MAX_VALUE}) {
            refused(Boundary::someClub, "part " + part, x -> x.worth(8, 3, part), OUTSIDE);
        }
    }

    // ---- a CLUB

    private static long seedBehind(long seed, int draws) {
        long s = seed;
        for (int i = 0; i < draws; i++) {
            s = (1103515245L * s + 12345) % (1L << 31);
        }
        return s;
    }

    /** What the so many-th DRAW of 10 from a seed is. */
    private static int drawn(long seed, int which) {
        return (int) (seedBehind(seed, which) / 65536 % 10);
    }

    private static void noYears() {
        sentence(29, "A CLUB: eight people, TASTE of each a DRAW of 10; behind 0 YEARS");
        for (int seed : new int[] {0, 1, 99, Integer.MAX_VALUE}) {
            BlackBalls x = withRules("b1q8tc");
            int tastes = 0;
            for (int i = 1; i <= 8; i++) {
                tastes |= 1 << drawn(seed, i);
            }
            due("people", x.years(0, 0, seed, 0), 8);
            due("unlike tastes", x.years(0, 0, seed, 1), Integer.bitCount(tastes));
            due("let in", x.years(0, 0, seed, 2), 0);
            due("seed", x.years(0, 0, seed, 3), seedBehind(seed, 8));
        }
    }

    private static void yearsBelowQuorum() {
        sentence(29, "Each YEAR the first one goes; by the RULE (all who are there came)");
        BlackBalls x = withRules("b8q8y", "r2q8tc");
        for (int years = 0; years <= 60; years++) {
            // Seven are never eight: nobody is let in, and no ball is put.
            due("people behind " + years, x.years(years % 2, years, 5, 0), Math.max(0, 8 - years));
            due("let in behind " + years, x.years(years % 2, years, 5, 2), 0);
            due("seed behind " + years, x.years(years % 2, years, 5, 3), seedBehind(5, 8 + years));
        }
        int tastes = 1 << drawn(5, 7) | 1 << drawn(5, 8);
        due("the last two are left", x.years(0, 6, 5, 1), Integer.bitCount(tastes));
        due("the last one is left", x.years(0, 7, 5, 1), 1);
        due("nobody is left", x.years(0, 8, 5, 1), 0);
    }

    private static void yearsJustAtQuorum() {
        sentence(29, "LET IN it comes behind all");
        BlackBalls x = withRules("b8q7y");
        for (int years : new int[] {0, 1, 2, 7, 8, 9, 59, 60}) {
            // Seven can put seven black ones at most: each year one is let in, by one draw and seven.
            due("people behind " + years, x.years(0, years, 5, 0), 8);
            due("let in behind " + years, x.years(0, years, 5, 2), years);
            due("seed behind " + years, x.years(0, years, 5, 3), seedBehind(5, 8 + 8 * years));
            int tastes = 0;
            for (int i = 0; i < 8; i++) {
                int came = years - 8 + i + 1;
                tastes |= 1 << drawn(5, came > 0 ? 8 + 8 * (came - 1) + 1 : years + i + 1);
            }
            due("unlike tastes behind " + years, x.years(0, years, 5, 1), Integer.bitCount(tastes));
        }
    }

    private static void yearsThatLoseTheQuorum() {
        sentence(29, "LET IN by the RULE, if QUORUM or more came; a year behind one that let in");
        for (int seed = 0; seed < 100; seed++) {
            BlackBalls x = withRules("b4q7y");
            int kept = 0;
            while (kept < 60 && x.years(0, kept + 1, seed, 0) == 8) {
                kept++;
            }
            // The year behind those shut one out: there are six to come, and nobody is let in any more.
            for (int years = kept + 1; years <= Math.min(60, kept + 9); years++) {
                due("seed " + seed + ", people behind " + years, x.years(0, years, seed, 0), Math.max(0, 8 - years + kept));
                due("seed " + seed + ", let in behind " + years, x.years(0, years, seed, 2), kept);
            }
        }
    }

    private static void yearsByNobody() {
        sentence(29, "(by nobody nobody is)");
        for (String rule : new String[] {"b1q0y", "r2q0y", "b1q1ty", "r20q0tc"}) {
            BlackBalls x = withRules(rule);
            int emptied = 0;
            while (emptied < 60 && x.years(0, emptied, 3000, 0) > 0) {
                emptied++;
            }
            due(rule + ": it is empty ahead of the last year", emptied < 60 ? 1 : 0, 1);
            BlackBalls y = withRules(rule);
            for (int years = emptied; years <= 60; years++) {
                due(rule + ": people behind " + years, y.years(0, years, 3000, 0), 0);
                due(rule + ": tastes behind " + years, y.years(0, years, 3000, 1), 0);
                due(rule + ": let in behind " + years, y.years(0, years, 3000, 2), y.years(0, emptied, 3000, 2));
                due(rule + ": seed behind " + years, y.years(0, years, 3000, 3),
                    seedBehind(y.years(0, emptied, 3000, 3), years - emptied));
            }
        }
    }

    /** How many of seven put a black ball in the first year, in a round that begins behind so many draws. */
    private static int blacksOfFirstYear(long seed, int draws) {
        int put = 0;
        for (int i = 0; i < 7; i++) {
            int differ = Math.abs(drawn(seed, 9) - drawn(seed, i + 2));
            put += drawn(seed, draws + i + 1) < 2 * differ ? 1 : 0;
        }
        return put;
    }

    private static void yearsByTastes() {
        sentence(29, "puts a black ball, if a DRAW of 10 is below twice the size of what TASTES differ by");
        String[] rules = {"b1q7y", "b2q7y", "b4q7y", "b6q7y", "b7q7y"};
        int[] most = {1, 2, 4, 6, 7};
        for (int seed = 0; seed < 400; seed++) {
            BlackBalls x = withRules(rules);
            for (int rule = 0; rule < rules.length; rule++) {
                boolean in = blacksOfFirstYear(seed, 9) < most[rule];
                due("seed " + seed + ", " + rules[rule], x.years(rule, 1, seed, 0), in ? 8 : 7);
                due("seed " + seed + ", " + rules[rule] + ", let in", x.years(rule, 1, seed, 2), in ? 1 : 0);
                due("seed " + seed + ", " + rules[rule] + ", seed", x.years(rule, 1, seed, 3), seedBehind(seed, 16));
            }
        }
    }

    private static void yearsTwice() {
        sentence(29, "by the RULE (TWICE: again)");
        for (int seed = 0; seed < 400; seed++) {
            BlackBalls x = withRules("b4q7ty");
            boolean first = blacksOfFirstYear(seed, 9) < 4;
            boolean in = first || blacksOfFirstYear(seed, 16) < 4;
            due("seed " + seed + ", let in", x.years(0, 1, seed, 2), in ? 1 : 0);
            due("seed " + seed + ", seed", x.years(0, 1, seed, 3), seedBehind(seed, first ? 16 : 23));
        }
    }

    private static void yearsSeed() {
        sentence(29, "the SEED then, its rest by 2 to the 31");
        BlackBalls x = withRules("b8q0y");
        for (int seed : new int[] {0, 1, 65536, 1 << 30, Integer.MAX_VALUE - 1, Integer.MAX_VALUE}) {
            due("no year from " + seed, x.years(0, 0, seed, 3), seedBehind(seed, 8));
            due("60 years from " + seed, x.years(0, 60, seed, 3), seedBehind(seed, 8 + 60 * 8));
        }
    }

    private static void yearsOutside() {
        sentence(29, "OUTSIDE: years (0 to 60), seed, what.");
        for (int years : new int[] {-1, 61, Integer.MIN_VALUE, Integer.MAX_VALUE}) {
            refused(Boundary::someClub, "years " + years, x -> x.years(0, years, 5, 0), OUTSIDE);
        }
        for (int seed : new int[] {-1, Integer.MIN_VALUE}) {
            refused(Boundary::someClub, "seed " + seed, x -> x.years(0, 5, seed, 3), OUTSIDE);
        }
        for (int what : new int[] {-1, 4, Integer.MIN_VALUE, Integer.MAX_VALUE}) {
            refused(Boundary::someClub, "what " + what, x -> x.years(0, 5, 5, what), OUTSIDE);
        }
    }

    private static void yearsOfNoRule() {
        sentence(29, "UNKNOWN; OUTSIDE: years (0 to 60), seed, what.");
        for (int rule : new int[] {-1, 2, Integer.MIN_VALUE, Integer.MAX_VALUE}) {
            refused(Boundary::someClub, "rule " + rule, x -> x.years(rule, 5, 5, 0), UNKNOWN);
            refused(Boundary::someClub, "rule " + rule + ", all else off", x -> x.years(rule, 61, -1, 4), UNKNOWN);
        }
        refused(BlackBalls::new, "rule 0 of none", x -> x.years(0, 5, 5, 0), UNKNOWN);
        refused(Boundary::fullClub, "rule 6 of six", x -> x.years(6, 5, 5, 0), UNKNOWN);
        due("a club needs no members", withRules("b8q0y").years(0, 60, 5, 0), 8);
    }

    // ---- a LOT

    private static void lotOfMindedOnes() {
        sentence(30, "LOT: of CANDIDATES that are not MINDED one is drawn, all as likely.");
        for (int minded = 0; minded <= 6; minded++) {
            BlackBalls x = withMembers(2);
            for (int candidate = 0; candidate < 6; candidate++) {
                x.candidate(0);
                x.minds(0, candidate, candidate < minded ? 5 : 10);
                x.minds(1, candidate, candidate < minded ? 5 : 4);
            }
            for (int candidate = 0; candidate < 6; candidate++) {
                boolean out = candidate < minded;
                String call = minded + " are minded, candidate " + candidate;
                fraction(call, x.lot(candidate, 0), x.lot(candidate, 1), out ? 0 : 1, out ? 1 : 6 - minded);
            }
        }
        BlackBalls alone = withMembers(1);
        alone.candidate(0);
        fraction("the only one", alone.lot(0, 0), alone.lot(0, 1), 1, 1);
    }

    private static void lotOfNobody() {
        sentence(30, "UNKNOWN; OUTSIDE.");
        for (int candidate : new int[] {-1, 3, Integer.MIN_VALUE, Integer.MAX_VALUE}) {
            refused(Boundary::someClub, "candidate " + candidate, x -> x.lot(candidate, 0), UNKNOWN);
            refused(Boundary::someClub, "candidate " + candidate + ", part 2", x -> x.lot(candidate, 2), UNKNOWN);
        }
        for (int part : new int[] {-1, 2, Integer.MIN_VALUE, Integer.MAX_VALUE}) {
            refused(Boundary::someClub, "part " + part, x -> x.lot(2, part), OUTSIDE);
        }
        refused(() -> withMembers(1), "candidate 0 of none", x -> x.lot(0, 0), UNKNOWN);
        refused(Boundary::fullClub, "candidate 6 of six", x -> x.lot(6, 0), UNKNOWN);
    }
}
