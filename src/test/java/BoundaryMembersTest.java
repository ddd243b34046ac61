/** The boundary cases of promises 7 to 13: members, their kinds, candidates, who minds whom. */
public final class BoundaryMembersTest extends Boundary {
    public static void main(String[] args) {
        eightMembers();
        kindFrom0To4();
        mistakenFrom0To5();
        nOfPlainAndFeared();
        nToldAhead();
        comesOfANewOne();
        orderOfMember();
        tradedIsVengeful();
        asOfKindOutside();
        asOfNobody();
        aboutFrom0To2();
        aboutNobody();
        comesFrom0To10();
        comesOfNobody();
        friendOfACandidate();
        sixCandidates();
        unknownAheadOfFull();
        mindsAtFirst();
        mindsFrom0To10();
        mindsStays();
        mindsOfNobody();
        mindedByTwo();
        mindedBy5();
        mindedByAllMembers();
        friendFrom0To2();
        friendOfNobody();
        end();
    }

    // ---- member

    private static void eightMembers() {
        sentence(7, "MEMBERS (8 at most, numbered); FULL");
        BlackBalls x = new BlackBalls();
        for (int i = 0; i < 8; i++) {
            due("member " + i, x.member(i == 0 ? 0 : 3, Math.max(0, i - 1), i), i);
            due("how many", x.count(0), i + 1);
        }
        for (int i = 0; i < 8; i++) {
            due("n of " + i, x.about(i, 1), Math.max(0, i - 1));
            due("comes of " + i, x.about(i, 2), i);
        }
        for (int kind = 0; kind <= 4; kind++) {
            int which = kind;
            refused(Boundary::fullClub, "a ninth of kind " + kind, y -> y.member(which, 0, 10), FULL);
        }
    }

    private static void kindFrom0To4() {
        sentence(7, "0 MEMBER, 1 FEARED, 2 MISTAKEN, 3 VENGEFUL, 4 TRADED; OUTSIDE: kind");
        BlackBalls x = withMembers(1);
        for (int kind = 0; kind <= 4; kind++) {
            due("kind " + kind, x.member(kind, 0, 5), kind + 1);
            due("kind told", x.about(kind + 1, 0), kind);
        }
        for (int kind : new int[] {-1, 5, Integer.MIN_VALUE, Integer.MAX_VALUE}) {
            refused(Boundary::someClub, "kind " + kind, y -> y.member(kind, 0, 5), OUTSIDE);
        }
    }

    private static void mistakenFrom0To5() {
        sentence(7, "of a MISTAKEN 0 to 5; OUTSIDE: n");
        BlackBalls x = new BlackBalls();
        for (int n = 0; n <= 5; n++) {
            due("n " + n, x.member(2, n, 5), n);
            due("n told", x.about(n, 1), n);
        }
        for (int n : new int[] {-1, 6, 10, Integer.MIN_VALUE, Integer.MAX_VALUE}) {
            refused(Boundary::someClub, "n " + n, y -> y.member(2, n, 5), OUTSIDE);
        }
    }

    private static void nOfPlainAndFeared() {
        sentence(7, "else 0; OUTSIDE: n");
        for (int kind = 0; kind <= 1; kind++) {
            int which = kind;
            due("n 0 of kind " + kind, new BlackBalls().member(kind, 0, 5), 0);
            for (int n : new int[] {-1, 1, 4, Integer.MIN_VALUE, Integer.MAX_VALUE}) {
                refused(Boundary::someClub, "n " + n + " of kind " + kind, x -> x.member(which, n, 5), OUTSIDE);
            }
        }
    }

    private static void nToldAhead() {
        sentence(7, "of a VENGEFUL, a TRADED a MEMBER told ahead; OUTSIDE: n (but of a VENGEFUL, a TRADED: UNKNOWN)");
        for (int kind = 3; kind <= 4; kind++) {
            int which = kind;
            refused(BlackBalls::new, "of the first there is", x -> x.member(which, 0, 5), UNKNOWN);
            due("of the first", someClub().member(kind, 0, 5), 5);
            due("of the last", someClub().member(kind, 4, 5), 5);
            for (int n : new int[] {-1, 5, 6, 8, Integer.MIN_VALUE, Integer.MAX_VALUE}) {
                // 5 would be its own number.
                refused(Boundary::someClub, "of " + n, x -> x.member(which, n, 5), UNKNOWN);
            }
        }
        BlackBalls x = withMembers(7);
        due("the eighth, of the seventh", x.member(3, 6, 5), 7);
        due("its n", x.about(7, 1), 6);
    }

    private static void comesOfANewOne() {
        sentence(7, "COMES (0 to 10 tenths); OUTSIDE: comes");
        for (int kind = 0; kind <= 4; kind++) {
            int which = kind;
            for (int comes : new int[] {0, 1, 9, 10}) {
                BlackBalls x = withMembers(1);
                due("comes " + comes, x.member(kind, 0, comes), 1);
                due("told", x.about(1, 2), comes);
            }
            for (int comes : new int[] {-1, 11, Integer.MIN_VALUE, Integer.MAX_VALUE}) {
                refused(Boundary::someClub, "comes " + comes, x -> x.member(which, 0, comes), OUTSIDE);
            }
        }
    }

    private static void orderOfMember() {
        sentence(7, "OUTSIDE: kind, n (but of a VENGEFUL, a TRADED: UNKNOWN), comes; FULL.");
        refused(Boundary::someClub, "kind ahead of n", x -> x.member(5, 9, 5), OUTSIDE);
        refused(Boundary::someClub, "n ahead of comes", x -> x.member(3, 9, 11), UNKNOWN);
        refused(Boundary::someClub, "n of a traded ahead of comes", x -> x.member(4, -1, -1), UNKNOWN);
        refused(Boundary::fullClub, "kind ahead of full", x -> x.member(5, 0, 5), OUTSIDE);
        refused(Boundary::fullClub, "n ahead of full", x -> x.member(0, 1, 5), OUTSIDE);
        refused(Boundary::fullClub, "n of a mistaken ahead of full", x -> x.member(2, 6, 5), OUTSIDE);
        refused(Boundary::fullClub, "n of a vengeful ahead of full", x -> x.member(3, 8, 5), UNKNOWN);
        refused(Boundary::fullClub, "n of a traded ahead of full", x -> x.member(4, 8, 5), UNKNOWN);
        refused(Boundary::fullClub, "comes ahead of full", x -> x.member(0, 0, 11), OUTSIDE);
        refused(Boundary::fullClub, "comes of a vengeful ahead of full", x -> x.member(3, 7, 11), OUTSIDE);
    }

    // ---- as

    private static void tradedIsVengeful() {
        sentence(8, "All are MEMBERS; a TRADED is VENGEFUL, too. NONE: it is none such (the cast fails).");
        // So that the number of a member is not that of its kind.
        int[] kinds = {4, 3, 2, 1, 0};
        BlackBalls x = withMembers(1);
        for (int kind : kinds) {
            x.member(kind, 0, 5);
        }
        int[][] such = {{1, NONE, NONE, 1, 1}, {2, NONE, NONE, 2, NONE}, {3, NONE, 3, NONE, NONE},
            {4, 4, NONE, NONE, NONE}, {5, NONE, NONE, NONE, NONE}};
        for (int i = 0; i < 5; i++) {
            for (int kind = 0; kind <= 4; kind++) {
                due("a " + kinds[i] + " as a " + kind, x.as(i + 1, kind), such[i][kind]);
            }
        }
        due("the first as a member", x.as(0, 0), 0);
        due("the last of eight", fullClub().as(7, 3), 7);
    }

    private static void asOfKindOutside() {
        sentence(8, "OUTSIDE.");
        for (int kind : new int[] {-1, 5, Integer.MIN_VALUE, Integer.MAX_VALUE}) {
            refused(Boundary::someClub, "kind " + kind, x -> x.as(4, kind), OUTSIDE);
        }
    }

    private static void asOfNobody() {
        sentence(8, "UNKNOWN; OUTSIDE.");
        for (int member : new int[] {-1, 5, 8, Integer.MIN_VALUE, Integer.MAX_VALUE}) {
            refused(Boundary::someClub, "member " + member, x -> x.as(member, 0), UNKNOWN);
            refused(Boundary::someClub, "member " + member + ", kind 5", x -> x.as(member, 5), UNKNOWN);
        }
        refused(Boundary::fullClub, "member 8 of eight", x -> x.as(8, 0), UNKNOWN);
        refused(BlackBalls::new, "member 0 of none", x -> x.as(0, 0), UNKNOWN);
    }

    // ---- about

    private static void aboutFrom0To2() {
        sentence(9, "Of a MEMBER: what = 0 KIND, 1 n, 2 COMES. OUTSIDE.");
        BlackBalls x = fullClub();
        int[] told = {4, 6, 5};
        for (int what = 0; what <= 2; what++) {
            due("what " + what, x.about(7, what), told[what]);
        }
        for (int what : new int[] {-1, 3, Integer.MIN_VALUE, Integer.MAX_VALUE}) {
            refused(Boundary::someClub, "what " + what, y -> y.about(4, what), OUTSIDE);
        }
    }

    private static void aboutNobody() {
        sentence(9, "UNKNOWN; OUTSIDE.");
        for (int member : new int[] {-1, 5, Integer.MIN_VALUE, Integer.MAX_VALUE}) {
            refused(Boundary::someClub, "member " + member, x -> x.about(member, 2), UNKNOWN);
            refused(Boundary::someClub, "member " + member + ", what 3", x -> x.about(member, 3), UNKNOWN);
        }
        refused(Boundary::fullClub, "member 8 of eight", x -> x.about(8, 0), UNKNOWN);
        refused(BlackBalls::new, "member 0 of none", x -> x.about(0, 0), UNKNOWN);
    }

    // ---- comes

    private static void comesFrom0To10() {
        sentence(10, "COMES of a MEMBER becomes v: what it was. OUTSIDE.");
        BlackBalls x = fullClub();
        int was = 5;
        for (int v : new int[] {0, 10, 1, 9, 9}) {
            due("becomes " + v, x.comes(7, v), was);
            due("told", x.about(7, 2), v);
            was = v;
        }
        for (int v : new int[] {-1, 11, Integer.MIN_VALUE, Integer.MAX_VALUE}) {
            refused(Boundary::someClub, "v " + v, y -> y.comes(0, v), OUTSIDE);
        }
    }

    private static void comesOfNobody() {
        sentence(10, "UNKNOWN; OUTSIDE.");
        for (int member : new int[] {-1, 5, Integer.MIN_VALUE, Integer.MAX_VALUE}) {
            refused(Boundary::someClub, "member " + member, x -> x.comes(member, 5), UNKNOWN);
            refused(Boundary::someClub, "member " + member + ", v 11", x -> x.comes(member, 11), UNKNOWN);
        }
        refused(Boundary::fullClub, "member 8 of eight", x -> x.comes(8, 5), UNKNOWN);
        refused(BlackBalls::new, "member 0 of none", x -> x.comes(0, 5), UNKNOWN);
    }

    // ---- candidate

    private static void friendOfACandidate() {
        sentence(11, "UNKNOWN: friend");
        due("the first put it up", someClub().candidate(0), 3);
        due("the last put it up", someClub().candidate(4), 3);
        for (int friend : new int[] {-1, 5, 8, Integer.MIN_VALUE, Integer.MAX_VALUE}) {
            refused(Boundary::someClub, "friend " + friend, x -> x.candidate(friend), UNKNOWN);
        }
        refused(BlackBalls::new, "friend 0 of none", x -> x.candidate(0), UNKNOWN);
        due("the eighth put it up", withMembers(8).candidate(7), 0);
    }

    private static void sixCandidates() {
        sentence(11, "CANDIDATES (6 at most, numbered); FULL");
        BlackBalls x = withMembers(8);
        for (int i = 0; i < 6; i++) {
            due("candidate " + i, x.candidate(7 - i), i);
            due("how many", x.count(1), i + 1);
        }
        for (int i = 0; i < 6; i++) {
            due("friend of " + i, x.friend(i, 0), 7 - i);
        }
        refused(Boundary::fullClub, "a seventh", y -> y.candidate(0), FULL);
        refused(Boundary::fullClub, "a seventh of the last", y -> y.candidate(7), FULL);
    }

    private static void unknownAheadOfFull() {
        sentence(11, "UNKNOWN: friend; FULL.");
        refused(Boundary::fullClub, "friend 8, and six there are", x -> x.candidate(8), UNKNOWN);
        refused(Boundary::fullClub, "friend -1, and six there are", x -> x.candidate(-1), UNKNOWN);
    }

    // ---- minds

    private static void mindsAtFirst() {
        sentence(12, "Each MEMBER MINDS each CANDIDATE by 0 to 10 tenths (0 at first).");
        BlackBalls x = withMembers(7);
        for (int i = 0; i < 6; i++) {
            x.candidate(0);
        }
        x.member(0, 0, 5);
        for (int member = 0; member < 8; member++) {
            for (int candidate = 0; candidate < 6; candidate++) {
                due("member " + member + ", candidate " + candidate, x.minds(member, candidate, NONE), 0);
            }
        }
    }

    private static void mindsFrom0To10() {
        sentence(12, "What a MEMBER MINDS a CANDIDATE by becomes v: what it was. OUTSIDE.");
        BlackBalls x = withMembers(8);
        for (int i = 0; i < 6; i++) {
            x.candidate(0);
        }
        int was = 0;
        for (int v : new int[] {10, 0, 1, 9, 9}) {
            due("becomes " + v, x.minds(7, 5, v), was);
            was = v;
        }
        due("the one beside it", x.minds(6, 5, NONE), 0);
        due("the candidate beside it", x.minds(7, 4, NONE), 0);
        for (int v : new int[] {-2, 11, Integer.MIN_VALUE, Integer.MAX_VALUE}) {
            refused(Boundary::someClub, "v " + v, y -> y.minds(1, 0, v), OUTSIDE);
        }
    }

    private static void mindsStays() {
        sentence(12, "(NONE: it stays)");
        for (int v : new int[] {0, 1, 10}) {
            BlackBalls x = someClub();
            x.minds(1, 0, v);
            due("asked", x.minds(1, 0, NONE), v);
            due("asked again", x.minds(1, 0, NONE), v);
        }
    }

    private static void mindsOfNobody() {
        sentence(12, "UNKNOWN; OUTSIDE.");
        for (int off : new int[] {-1, 5, 8, Integer.MIN_VALUE, Integer.MAX_VALUE}) {
            refused(Boundary::someClub, "member " + off, x -> x.minds(off, 0, 5), UNKNOWN);
            refused(Boundary::someClub, "candidate " + off, x -> x.minds(0, off, 5), UNKNOWN);
            refused(Boundary::someClub, "member " + off + ", v 11", x -> x.minds(off, 0, 11), UNKNOWN);
            refused(Boundary::someClub, "candidate " + off + ", v 11", x -> x.minds(0, off, 11), UNKNOWN);
        }
        refused(Boundary::someClub, "candidate 3 of three", x -> x.minds(0, 3, 5), UNKNOWN);
        refused(Boundary::fullClub, "candidate 6 of six", x -> x.minds(7, 6, 5), UNKNOWN);
        refused(Boundary::fullClub, "member 8 of eight", x -> x.minds(8, 5, 5), UNKNOWN);
        refused(() -> withMembers(1), "candidate 0 of none", x -> x.minds(0, 0, 5), UNKNOWN);
        refused(BlackBalls::new, "of nothing", x -> x.minds(0, 0, 5), UNKNOWN);
    }

    // ---- friend

    private static void mindedByTwo() {
        sentence(13, "MINDED: a CANDIDATE whom at least two of all MEMBERS mind");
        BlackBalls x = withMembers(8);
        x.candidate(0);
        for (int many = 0; many <= 8; many++) {
            due("by " + many, x.friend(0, 2), many);
            due("minded", x.friend(0, 1), many >= 2 ? 1 : 0);
            if (many < 8) {
                x.minds(many, 0, 5);
            }
        }
        BlackBalls alone = withMembers(1);
        alone.candidate(0);
        alone.minds(0, 0, 10);
        due("by the only one there is", alone.friend(0, 1), 0);
    }

    private static void mindedBy5() {
        sentence(13, "mind by 5 or more");
        for (int v = 0; v <= 10; v++) {
            BlackBalls x = withMembers(3);
            x.candidate(0);
            x.minds(1, 0, v);
            x.minds(2, 0, v);
            due("both by " + v + ", how many", x.friend(0, 2), v >= 5 ? 2 : 0);
            due("both by " + v, x.friend(0, 1), v >= 5 ? 1 : 0);
            x.minds(2, 0, 4);
            due("one by " + v + ", one by 4", x.friend(0, 1), 0);
        }
        BlackBalls sum = withMembers(8);
        sum.candidate(0);
        for (int member = 0; member < 8; member++) {
            sum.minds(member, 0, 4);
        }
        due("all eight by 4", sum.friend(0, 1), 0);
    }

    private static void mindedByAllMembers() {
        sentence(13, "at least two of all MEMBERS");
        BlackBalls x = new BlackBalls();
        x.member(1, 0, 0);
        x.member(4, 0, 0);
        x.candidate(0);
        x.minds(0, 0, 5);
        x.minds(1, 0, 5);
        due("its friend, and a traded one, who never come", x.friend(0, 1), 1);
    }

    private static void friendFrom0To2() {
        sentence(13, "The FRIEND (what = 0), whether it is MINDED (1; 1, 0), by how many MEMBERS by 5 or more (2). OUTSIDE.");
        BlackBalls x = withMembers(8);
        x.candidate(7);
        x.minds(0, 0, 5);
        x.minds(7, 0, 5);
        x.minds(3, 0, 10);
        int[] told = {7, 1, 3};
        for (int what = 0; what <= 2; what++) {
            due("what " + what, x.friend(0, what), told[what]);
        }
        for (int what : new int[] {-1, 3, Integer.MIN_VALUE, Integer.MAX_VALUE}) {
            refused(Boundary::someClub, "what " + what, y -> y.friend(2, what), OUTSIDE);
        }
    }

    private static void friendOfNobody() {
        sentence(13, "UNKNOWN; OUTSIDE.");
        for (int candidate : new int[] {-1, 3, Integer.MIN_VALUE, Integer.MAX_VALUE}) {
            refused(Boundary::someClub, "candidate " + candidate, x -> x.friend(candidate, 0), UNKNOWN);
            refused(Boundary::someClub, "candidate " + candidate + ", what 3", x -> x.friend(candidate, 3), UNKNOWN);
        }
        refused(Boundary::fullClub, "candidate 6 of six", x -> x.friend(6, 0), UNKNOWN);
        refused(() -> withMembers(1), "candidate 0 of none", x -> x.friend(0, 0), UNKNOWN);
    }
}
