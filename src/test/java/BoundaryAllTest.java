/** The boundary cases of promises 31 to 34: the image, the counts, the digest. */
public final class BoundaryAllTest extends Boundary {
    public static void main(String[] args) {
        imageOfNobody();
        imageOfEight();
        theLatest();
        noneWasKept();
        refusalKeepsTheImage();
        whatCameSince();
        restoredAgain();
        keepsMindsAndComesAlone();
        countOfNothing();
        countOfAll();
        countOutside();
        digestOfNothing();
        digestWraps();
        digestWithoutMembers();
        digestOfEachNumber();
        refusalsOfAll();
        end();
    }

    // ---- image, restore

    private static void imageOfNobody() {
        sentence(31, "An IMAGE is kept: how many MEMBERS; of none");
        BlackBalls x = new BlackBalls();
        due("image()", x.image(), 0);
        due("it is one", x.restore(), 0);
        x.member(0, 0, 5);
        x.candidate(0);
        x.minds(0, 0, 7);
        due("one came since", x.restore(), 1);
        due("its comes stays", x.about(0, 2), 5);
        due("its minds stays", x.minds(0, 0, NONE), 7);
    }

    private static void imageOfEight() {
        sentence(31, "An IMAGE is kept: how many MEMBERS; of eight");
        BlackBalls x = withMembers(8);
        for (int candidate = 0; candidate < 6; candidate++) {
            x.candidate(0);
        }
        for (int member = 0; member < 8; member++) {
            x.comes(member, member);
            for (int candidate = 0; candidate < 6; candidate++) {
                x.minds(member, candidate, (member + candidate) % 11);
            }
        }
        due("image()", x.image(), 8);
        String before = told(x);
        for (int member = 0; member < 8; member++) {
            x.comes(member, 10);
            for (int candidate = 0; candidate < 6; candidate++) {
                x.minds(member, candidate, 10 - member);
            }
        }
        due("something changed", told(x).equals(before) ? 0 : 1, 1);
        due("restore()", x.restore(), 8);
        due("all is as it was", told(x).equals(before) ? 1 : 0, 1);
    }

    private static void theLatest() {
        sentence(31, "(one; the latest)");
        BlackBalls x = withMembers(1);
        x.candidate(0);
        for (int v : new int[] {3, 10, 0}) {
            x.comes(0, v);
            x.minds(0, 0, 10 - v);
            due("image()", x.image(), 1);
        }
        x.comes(0, 5);
        x.minds(0, 0, 5);
        x.restore();
        due("comes of the latest", x.about(0, 2), 0);
        due("minds of the latest", x.minds(0, 0, NONE), 10);
        x.member(0, 0, 4);
        x.candidate(1);
        x.minds(1, 1, 6);
        due("one with those who came since", x.image(), 2);
        x.comes(1, 9);
        x.minds(1, 1, 9);
        x.minds(0, 1, 9);
        x.restore();
        due("comes of one who came since", x.about(1, 2), 4);
        due("minds of one who came since", x.minds(1, 1, NONE), 6);
        due("minds of a candidate who came since", x.minds(0, 1, NONE), 0);
    }

    private static void noneWasKept() {
        sentence(32, "STATE: none was kept.");
        refused(BlackBalls::new, "of a new object", BlackBalls::restore, STATE);
        refused(() -> withMembers(8, "b1q0y"), "of eight", BlackBalls::restore, STATE);
        BlackBalls x = withMembers(1);
        due("none yet", x.restore(), STATE);
        due("none again", x.restore(), STATE);
        x.image();
        due("one", x.restore(), 1);
        BlackBalls other = withMembers(1);
        due("another object's is its own", other.restore(), STATE);
    }

    private static void refusalKeepsTheImage() {
        sentence(32, "they change nothing: a refused restore() keeps no IMAGE");
        BlackBalls x = withMembers(1);
        x.candidate(0);
        x.restore();
        x.comes(0, 3);
        x.minds(0, 0, 3);
        due("still none", x.restore(), STATE);
        due("comes", x.about(0, 2), 3);
        due("minds", x.minds(0, 0, NONE), 3);
    }

    private static void whatCameSince() {
        sentence(32, "It goes on from the IMAGE (what came since stays as it is): how many MEMBERS.");
        BlackBalls x = withMembers(7, "b1q0y");
        for (int candidate = 0; candidate < 5; candidate++) {
            x.candidate(0);
        }
        x.image();
        x.member(0, 0, 4);
        x.candidate(7);
        for (int candidate = 0; candidate < 6; candidate++) {
            x.minds(7, candidate, 9);
            x.minds(6, candidate, 8);
        }
        x.comes(6, 1);
        x.comes(7, 2);
        write(x, "b1");
        due("eight, though seven were kept", x.restore(), 8);
        due("comes of the seventh", x.about(6, 2), 10);
        due("comes of the eighth stays", x.about(7, 2), 2);
        for (int candidate = 0; candidate < 6; candidate++) {
            due("the seventh minds " + candidate, x.minds(6, candidate, NONE), candidate < 5 ? 0 : 8);
            due("the eighth minds " + candidate, x.minds(7, candidate, NONE), 9);
        }
        due("the sixth candidate stays", x.friend(5, 0), 7);
        due("letters stay", x.count(3), 2);
        due("rules stay", x.count(2), 1);
    }

    private static void restoredAgain() {
        sentence(32, "It goes on from the IMAGE, again and again");
        BlackBalls x = withMembers(1);
        x.candidate(0);
        x.minds(0, 0, 6);
        x.image();
        for (int v = 0; v <= 10; v += 5) {
            x.comes(0, v);
            x.minds(0, 0, v);
            due("restore()", x.restore(), 1);
            due("comes", x.about(0, 2), 10);
            due("minds", x.minds(0, 0, NONE), 6);
        }
    }

    private static void keepsMindsAndComesAlone() {
        sentence(31, "An IMAGE keeps MINDS, COMES.");
        BlackBalls x = withMembers(2, "b1q0y");
        x.candidate(0);
        write(x, "b2q0y");
        x.image();
        x.rule();
        write(x, "r2");
        x.restore();
        due("the rules are those of now", x.count(2), 2);
        due("the page is that of now", x.count(3), 2);
        x.blank();
        x.restore();
        due("the page stays empty", x.count(3), 0);
    }

    // ---- count

    private static void countOfNothing() {
        sentence(33, "How many: 0 MEMBERS, 1 CANDIDATES, 2 RULES, 3 letters of THE PAGE, 4 CANDIDATES that are MINDED; none");
        for (int what = 0; what <= 4; what++) {
            due("count(" + what + ")", new BlackBalls().count(what), 0);
        }
    }

    private static void countOfAll() {
        sentence(33, "How many: 0 MEMBERS, 1 CANDIDATES, 2 RULES, 3 letters of THE PAGE, 4 CANDIDATES that are MINDED; as many as may be");
        BlackBalls x = fullClub();
        for (int candidate = 0; candidate < 6; candidate++) {
            x.minds(0, candidate, 5);
            x.minds(1, candidate, 5);
        }
        int[] want = {8, 6, 6, 20, 6};
        for (int what = 0; what <= 4; what++) {
            due("count(" + what + ")", x.count(what), want[what]);
        }
        for (int candidate = 0; candidate < 6; candidate++) {
            for (int member = 0; member < 8; member++) {
                x.minds(member, candidate, member == 0 ? 10 : 4);
            }
            due("no longer minded: " + candidate, x.count(4), 5 - candidate);
        }
    }

    private static void countOutside() {
        sentence(33, "OUTSIDE.");
        for (int what : new int[] {-1, 5, Integer.MIN_VALUE, Integer.MAX_VALUE}) {
            refused(Boundary::someClub, "count(" + what + ")", x -> x.count(what), OUTSIDE);
        }
    }

    // ---- digest

    private static long mixed(long start, long... numbers) {
        long h = start;
        for (long number : numbers) {
            h = 31 * h + number;
        }
        return h;
    }

    private static void digestOfNothing() {
        sentence(34, "h is 487, then what count() tells for 0 to 4, of a new object");
        due("digest()", new BlackBalls().digest(), 487L * 31 * 31 * 31 * 31 * 31);
        due("digest()", new BlackBalls().digest(), mixed(487, 0, 0, 0, 0, 0));
    }

    /** The digest by what the other calls tell. */
    private static long digestOf(BlackBalls x, String page) {
        long h = 487;
        int members = x.count(0);
        int candidates = x.count(1);
        int rules = x.count(2);
        for (int rule = 0; rule < rules; rule++) {
            for (int what = 0; what <= 4; what++) {
                h = mixed(h, x.ruleTold(rule, what));
            }
        }
        for (int member = 0; member < members; member++) {
            h = mixed(h, x.about(member, 0), x.about(member, 1), x.about(member, 2));
            for (int candidate = 0; candidate < candidates; candidate++) {
                h = mixed(h, x.minds(member, candidate, NONE));
            }
        }
        for (int candidate = 0; candidate < candidates; candidate++) {
            h = mixed(h, x.friend(candidate, 0), x.friend(candidate, 1), x.friend(candidate, 2));
        }
        int all = (1 << members) - 1;
        for (int rule = 0; rule < rules; rule++) {
            for (int candidate = 0; candidate < candidates; candidate++) {
                h = mixed(h, x.in(rule, candidate, all, 0), x.in(rule, candidate, all, 1));
            }
        }
        for (int i = 0; i < page.length(); i++) {
            h = mixed(h, page.charAt(i));
        }
        return mixed(h, members, candidates, rules, x.count(3), x.count(4));
    }

    private static void digestWraps() {
        sentence(34, "31 times h, and it (as longs, wrapping)");
        BlackBalls x = fullClub();
        due("as much of all as there may be", x.digest(), digestOf(fullClub(), "b1q0tcxxxxxxxxxxxxxx"));
        // 13 letters and five counts are enough to wrap around.
        BlackBalls letters = withPage("~~~~~~~~~~~~~");
        due("letters alone", letters.digest(), digestOf(new BlackBalls(), "~~~~~~~~~~~~~") + 13 * 31);
    }

    private static void digestWithoutMembers() {
        sentence(34, "with MEMBERS, of each RULE and CANDIDATE IN by all MEMBERS (above, below)");
        due("rules without members", withRules("b8q0ty", "r20q8c").digest(),
            mixed(487, 8, 0, 0, 1, 0, 0, 20, 8, 0, 1, 0, 0, 2, 0, 0));
        due("rules and members without candidates", withMembers(1, "b1q0y").digest(),
            mixed(487, 1, 0, 0, 0, 0, 0, 0, 10, 1, 0, 1, 0, 0));
        BlackBalls one = withMembers(1, "b1q0y", "b1q2y");
        one.candidate(0);
        // The only one, its friend, lets it in; two would be needed by the second rule.
        due("one of each", one.digest(),
            mixed(487, 1, 0, 0, 0, 0, 1, 0, 2, 0, 0, 0, 0, 10, 0, 0, 0, 0, 1, 1, 0, 1, 1, 1, 2, 0, 0));
        due("some club", someClub().digest(), digestOf(someClub(), "b1"));
    }

    private static void digestOfEachNumber() {
        sentence(34, "for each of these numbers, in order");
        long before = someClub().digest();
        BlackBalls x = someClub();
        x.minds(4, 2, 9);
        due("another minds", x.digest() == before ? 1 : 0, 0);
        x.minds(4, 2, 8);
        due("as it was", x.digest(), before);
        x.comes(4, 6);
        due("another comes", x.digest() == before ? 1 : 0, 0);
        x.comes(4, 5);
        due("as it was again", x.digest(), before);
        x.letters('x');
        due("another letter", x.digest() == before ? 1 : 0, 0);
        x.image();
        due("an image is no part of it", x.digest(), digestOf(x, "b1x"));
    }

    // ---- refusals

    /** Each kind of refusal there is, one behind the other on one object, with an image to go back to at the end. */
    private static void refusalsOfAll() {
        sentence(34, "Refusals: UNKNOWN, OUTSIDE, STATE, FULL; they change nothing.");
        BlackBalls x = fullClub();
        long before = x.digest();
        long[] refusals = {x.letters(127), x.letters('b'), x.rule(), x.ruleTold(6, 0), x.ruleTold(0, 5), x.member(0, 0, 10),
            x.member(0, 0, 11), x.member(3, 8, 0), x.as(8, 0), x.as(0, 5), x.about(8, 0), x.about(0, 3), x.comes(8, 0),
            x.comes(0, 11), x.candidate(8), x.candidate(0), x.minds(8, 0, 0), x.minds(0, 0, 11), x.friend(6, 0), x.friend(0, 3),
            x.black(0, 0, 0, 0), x.balls(0, 0, 255, 9, 0), x.in(0, 0, 255, 2), x.large(1, 0, 0), x.wrong(6, 255), x.best(256),
            x.who(0, 0, 255, 0, 9, 0), x.heard(0, 0, 255, 0, 11, true, 0), x.sway(0, 6, 255), x.word(0, 255, 11),
            x.seen(0, 255, -1, 0), x.evening(0, 0, 255, -1, 0), x.trade(0, 0, 0, 0, 1), x.veto(9, 0, 0), x.worth(0, 0, 0),
            x.years(0, 61, 0, 0), x.lot(6, 0), x.count(5)};
        for (int i = 0; i < refusals.length; i++) {
            due("refusal " + i, refusals[i] <= UNKNOWN && refusals[i] >= FULL ? 1 : 0, 1);
        }
        due("digest()", x.digest(), before);
        BlackBalls twin = fullClub();
        due("restore()", x.restore(), twin.restore());
        due("digest() of the image", x.digest(), twin.digest());
    }
}
