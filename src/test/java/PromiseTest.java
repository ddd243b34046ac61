import java.util.TreeSet;

/** For each promise ordinary inputs, the edges that the document names, and wrong inputs; the answers are worked out by hand. */
public final class PromiseTest {
    private static final int NONE = -1, UNKNOWN = -101, OUTSIDE = -102, STATE = -103, FULL = -104;
    private static final int[] FAR = {Integer.MIN_VALUE, -2, 100, Integer.MAX_VALUE};

    private static int wrong = 0;
    private static final TreeSet<Integer> seenPromises = new TreeSet<>();

    private static void due(int promise, String call, long got, long want) {
        seenPromises.add(promise);
        if (got != want) {
            wrong++;
            System.out.println("promise " + promise + ": " + call + " answered " + got + ", due is " + want);
        }
    }

    private static void write(BlackBalls x, String text) {
        for (int at = 0; at < text.length(); at += 8) {
            x.letters(word(text.substring(at, Math.min(text.length(), at + 8))));
        }
    }

    private static long word(String text) {
        long w = 0;
        for (int i = text.length() - 1; i >= 0; i--) {
            w = w << 8 | text.charAt(i);
        }
        return w;
    }

    private static BlackBalls withRules(String... texts) {
        BlackBalls x = new BlackBalls();
        for (String text : texts) {
            write(x, text);
            x.rule();
        }
        return x;
    }

    /** So many plain members who always come. */
    private static void plainMembers(BlackBalls x, int many) {
        for (int i = 0; i < many; i++) {
            x.member(0, 0, 10);
        }
    }

    private static void fraction(int promise, String call, long above, long below, long wantAbove, long wantBelow) {
        due(promise, call + " above", above, wantAbove);
        due(promise, call + " below", below, wantBelow);
    }

    public static void main(String[] args) {
        newObject();
        letters();
        blank();
        fault();
        rule();
        ruleTold();
        member();
        as();
        about();
        comes();
        candidate();
        minds();
        friend();
        black();
        balls();
        in();
        large();
        wrongAndBest();
        who();
        heard();
        sway();
        wordAndSeen();
        evening();
        trade();
        veto();
        worth();
        years();
        lot();
        image();
        restore();
        count();
        digest();
        constants();
        for (int promise = 1; promise <= 34; promise++) {
            due(promise, "is there a test of it", seenPromises.contains(promise) ? 1 : 0, 1);
        }
        System.out.println(wrong == 0 ? "all promises hold" : wrong + " answers are not as due");
        if (wrong != 0) {
            System.exit(1);
        }
    }

    private static void constants() {
        due(1, "NONE", BlackBalls.NONE, NONE);
        due(1, "UNKNOWN", BlackBalls.UNKNOWN, UNKNOWN);
        due(1, "OUTSIDE", BlackBalls.OUTSIDE, OUTSIDE);
        due(1, "STATE", BlackBalls.STATE, STATE);
        due(1, "FULL", BlackBalls.FULL, FULL);
    }

    private static void newObject() {
        BlackBalls x = new BlackBalls();
        for (int what = 0; what <= 4; what++) {
            due(1, "new: count " + what, x.count(what), 0);
        }
        due(1, "new: ruleTold", x.ruleTold(0, 0), UNKNOWN);
        due(1, "new: about", x.about(0, 0), UNKNOWN);
        due(1, "new: friend", x.friend(0, 0), UNKNOWN);
        due(1, "new: restore", x.restore(), STATE);
        BlackBalls other = new BlackBalls();
        other.member(0, 0, 1);
        due(1, "one object does not touch another", x.count(0), 0);
    }

    private static void letters() {
        BlackBalls x = new BlackBalls();
        due(2, "no letter", x.letters(0), 0);
        due(2, "one letter", x.letters('b'), 1);
        due(2, "four more, the lowest first", x.letters(word("1q0y")), 5);
        due(2, "they stand in their order", x.fault(), 5);
        due(2, "127", x.letters(127), OUTSIDE);
        due(2, "127 in the last byte", x.letters(127L << 56 | word("bbbbbbb")), OUTSIDE);
        due(2, "255 in the last byte", x.letters(-1L), OUTSIDE);
        due(2, "128 in the last byte", x.letters(Long.MIN_VALUE | word("bbbbbbb")), OUTSIDE);
        due(2, "a 0 ahead of a letter", x.letters((long) 'b' << 8), OUTSIDE);
        due(2, "a 0 between letters", x.letters((long) 'b' << 56 | 'b'), OUTSIDE);
        due(2, "refusals write nothing", x.count(3), 5);
        due(2, "126 and 1", x.letters(1L << 8 | 126), 7);
        due(2, "eight", x.letters(word("12345678")), 15);
        due(2, "above 20", x.letters(word("123456")), FULL);
        due(2, "refused as a whole", x.count(3), 15);
        due(2, "just 20", x.letters(word("12345")), 20);
        due(2, "one more", x.letters('1'), FULL);
        due(2, "none more", x.letters(0), 20);
        due(2, "OUTSIDE goes ahead of FULL", x.letters(127), OUTSIDE);
    }

    private static void blank() {
        BlackBalls x = new BlackBalls();
        due(3, "of an empty page", x.blank(), 0);
        write(x, "b1q");
        due(3, "of three", x.blank(), 3);
        due(3, "it is empty then", x.count(3), 0);
        due(3, "twice", x.blank(), 0);
        write(x, "b1q0y");
        due(3, "letters of before are gone", x.rule(), 0);
    }

    private static void fault() {
        String[] texts = {"", "x", "xb1", "B", "b", "b0", "b9", "bq", "b1", "b8q", "b10", "bb", "r", "r0", "r1", "r1q", "r1q0c",
            "r10q", "r19q", "r1x", "r2", "r2q", "r20", "r20q", "r21", "r200", "r3", "r9q", "r30", "r9q8", "r9q9", "r02",
            "b1q", "b1qt", "b1q0", "b1q00", "b1q8t", "b1q0tt", "b1q0tc", "b1q0ty", "b1q0c", "b1q0y", "b1q0cc", "b1q0yc",
            "b1q0tcc", "b1q0x", "b1q0tx", "b1Q0c", "b1q0T", "r20q8tc", "r20q8tcb", "b1q0yb1q0y"};
        int[] places = {0, 0, 0, 0, 1, 1, 1, 1, 2, 3, 2, 1, 1, 1, 2, 2, 2,
            4, 4, 2, 2, 3, 3, 4, 2, 3, 2, 3, 2, 4, 3, 1,
            3, 3, 4, 4, 5, 5, 6, 6, 5, 5, 5, 5,
            6, 4, 5, 2, 4, 7, 7, 5};
        for (int i = 0; i < texts.length; i++) {
            BlackBalls x = new BlackBalls();
            write(x, texts[i]);
            due(4, "fault of " + texts[i], x.fault(), places[i]);
            due(4, "it leaves the page", x.count(3), texts[i].length());
        }
    }

    private static void rule() {
        BlackBalls x = new BlackBalls();
        due(5, "of an empty page", x.rule(), STATE);
        for (String none : new String[] {"b1q0", "b1q0t", "r1q0c", "b9q0c", "b1q9c", "b1q0cc", "c", "y", "r20", "x1q0c", "b1q0tcy"}) {
            write(x, none);
            due(5, none + " is none", x.rule(), STATE);
            due(5, none + " stays", x.blank(), none.length());
        }
        due(5, "none was made", x.count(2), 0);
        for (int i = 0; i < 6; i++) {
            write(x, "b" + (i + 1) + "q0c");
            due(5, "number", x.rule(), i);
            due(5, "the page is empty then", x.count(3), 0);
        }
        due(5, "STATE goes ahead of FULL", x.rule(), STATE);
        write(x, "r20q8ty");
        due(5, "a seventh", x.rule(), FULL);
        due(5, "the page stays", x.count(3), 7);
        due(5, "there are six", x.count(2), 6);
    }

    private static void ruleTold() {
        BlackBalls x = withRules("b8q0ty", "r20q8c", "r2q3tc", "r13q1y");
        int[][] told = {{8, 0, 0, 1, 0}, {0, 20, 8, 0, 1}, {0, 2, 3, 1, 1}, {0, 13, 1, 0, 0}};
        for (int rule = 0; rule < told.length; rule++) {
            for (int what = 0; what <= 4; what++) {
                due(6, "rule " + rule + ", " + what, x.ruleTold(rule, what), told[rule][what]);
            }
        }
        due(6, "no such rule", x.ruleTold(4, 0), UNKNOWN);
        due(6, "rule -1", x.ruleTold(-1, 0), UNKNOWN);
        due(6, "what 5", x.ruleTold(0, 5), OUTSIDE);
        due(6, "what -1", x.ruleTold(0, -1), OUTSIDE);
        due(6, "UNKNOWN goes ahead", x.ruleTold(4, 5), UNKNOWN);
    }

    private static void member() {
        BlackBalls x = new BlackBalls();
        due(7, "a vengeful of nobody", x.member(3, 0, 5), UNKNOWN);
        due(7, "a traded of nobody", x.member(4, 0, 5), UNKNOWN);
        due(7, "kind -1", x.member(-1, 0, 5), OUTSIDE);
        due(7, "kind 5", x.member(5, 0, 5), OUTSIDE);
        due(7, "n of a member", x.member(0, 1, 5), OUTSIDE);
        due(7, "n of a feared", x.member(1, 1, 5), OUTSIDE);
        due(7, "n of a mistaken 6", x.member(2, 6, 5), OUTSIDE);
        due(7, "n of a mistaken -1", x.member(2, -1, 5), OUTSIDE);
        due(7, "comes 11", x.member(0, 0, 11), OUTSIDE);
        due(7, "comes -1", x.member(0, 0, -1), OUTSIDE);
        due(7, "none was made", x.count(0), 0);
        due(7, "first", x.member(0, 0, 0), 0);
        due(7, "a vengeful of itself", x.member(3, 1, 5), UNKNOWN);
        due(7, "a vengeful of -1", x.member(3, -1, 5), UNKNOWN);
        due(7, "n goes ahead of comes", x.member(3, 1, 11), UNKNOWN);
        due(7, "kind goes ahead of n", x.member(5, 9, 11), OUTSIDE);
        due(7, "a vengeful of the first", x.member(3, 0, 10), 1);
        due(7, "a traded of the second", x.member(4, 1, 5), 2);
        due(7, "mistaken 5", x.member(2, 5, 5), 3);
        due(7, "mistaken 0", x.member(2, 0, 5), 4);
        due(7, "feared", x.member(1, 0, 5), 5);
        x.member(0, 0, 5);
        due(7, "the eighth", x.member(0, 0, 5), 7);
        due(7, "a ninth", x.member(0, 0, 5), FULL);
        due(7, "OUTSIDE goes ahead of FULL", x.member(0, 0, 11), OUTSIDE);
        due(7, "UNKNOWN goes ahead of FULL", x.member(4, 8, 5), UNKNOWN);
        due(7, "there are eight", x.count(0), 8);
        for (int far : FAR) {
            due(7, "kind " + far, x.member(far, 0, 5), OUTSIDE);
            due(7, "n " + far, x.member(3, far, 5), UNKNOWN);
        }
    }

    private static void as() {
        BlackBalls x = new BlackBalls();
        int[][] such = {{0, NONE, NONE, NONE, NONE}, {1, 1, NONE, NONE, NONE}, {2, NONE, 2, NONE, NONE},
            {3, NONE, NONE, 3, NONE}, {4, NONE, NONE, 4, 4}};
        for (int kind = 0; kind <= 4; kind++) {
            x.member(kind, 0, 5);
        }
        for (int kind = 0; kind <= 4; kind++) {
            for (int as = 0; as <= 4; as++) {
                due(8, "kind " + kind + " as " + as, x.as(kind, as), such[kind][as]);
            }
        }
        x.member(1, 0, 5);
        due(8, "the number is the member's", x.as(5, 1), 5);
        due(8, "no such member", x.as(6, 0), UNKNOWN);
        due(8, "member -1", x.as(-1, 0), UNKNOWN);
        due(8, "kind 5", x.as(0, 5), OUTSIDE);
        due(8, "kind -1", x.as(0, -1), OUTSIDE);
        due(8, "UNKNOWN goes ahead", x.as(6, 5), UNKNOWN);
    }

    private static void about() {
        BlackBalls x = new BlackBalls();
        int[][] told = {{0, 0, 10}, {1, 0, 0}, {2, 4, 7}, {3, 2, 1}, {4, 3, 9}};
        for (int[] m : told) {
            x.member(m[0], m[1], m[2]);
        }
        for (int i = 0; i < told.length; i++) {
            for (int what = 0; what <= 2; what++) {
                due(9, "about " + i + ", " + what, x.about(i, what), told[i][what]);
            }
        }
        due(9, "no such member", x.about(5, 0), UNKNOWN);
        due(9, "member -1", x.about(-1, 0), UNKNOWN);
        due(9, "what 3", x.about(0, 3), OUTSIDE);
        due(9, "what -1", x.about(0, -1), OUTSIDE);
        due(9, "UNKNOWN goes ahead", x.about(5, 3), UNKNOWN);
    }

    private static void comes() {
        BlackBalls x = new BlackBalls();
        plainMembers(x, 2);
        due(10, "becomes 0", x.comes(0, 0), 10);
        due(10, "becomes 10", x.comes(0, 10), 0);
        due(10, "becomes 3", x.comes(0, 3), 10);
        due(10, "11", x.comes(0, 11), OUTSIDE);
        due(10, "-1", x.comes(0, -1), OUTSIDE);
        due(10, "stays", x.about(0, 2), 3);
        due(10, "another's stays", x.about(1, 2), 10);
        due(10, "no such member", x.comes(2, 3), UNKNOWN);
        due(10, "UNKNOWN goes ahead", x.comes(-1, 11), UNKNOWN);
    }

    private static void candidate() {
        BlackBalls x = new BlackBalls();
        due(11, "of nobody", x.candidate(0), UNKNOWN);
        plainMembers(x, 2);
        due(11, "of -1", x.candidate(-1), UNKNOWN);
        due(11, "of one not there", x.candidate(2), UNKNOWN);
        for (int i = 0; i < 6; i++) {
            due(11, "number", x.candidate(i % 2), i);
        }
        due(11, "a seventh", x.candidate(0), FULL);
        due(11, "UNKNOWN goes ahead of FULL", x.candidate(2), UNKNOWN);
        due(11, "there are six", x.count(1), 6);
    }

    private static void minds() {
        BlackBalls x = new BlackBalls();
        plainMembers(x, 2);
        x.candidate(0);
        x.candidate(1);
        due(12, "0 at first", x.minds(1, 1, NONE), 0);
        due(12, "becomes 10", x.minds(1, 1, 10), 0);
        due(12, "stays", x.minds(1, 1, NONE), 10);
        due(12, "stayed", x.minds(1, 1, 0), 10);
        due(12, "becomes 0", x.minds(1, 1, 4), 0);
        due(12, "11", x.minds(1, 1, 11), OUTSIDE);
        due(12, "-2", x.minds(1, 1, -2), OUTSIDE);
        due(12, "not changed by a refusal", x.minds(1, 1, NONE), 4);
        due(12, "another candidate", x.minds(1, 0, NONE), 0);
        due(12, "another member", x.minds(0, 1, NONE), 0);
        due(12, "no such member", x.minds(2, 0, 1), UNKNOWN);
        due(12, "no such candidate", x.minds(0, 2, 1), UNKNOWN);
        due(12, "candidate -1", x.minds(0, -1, 1), UNKNOWN);
        due(12, "UNKNOWN goes ahead", x.minds(0, 2, 11), UNKNOWN);
    }

    private static void friend() {
        BlackBalls x = new BlackBalls();
        plainMembers(x, 3);
        x.candidate(2);
        due(13, "friend", x.friend(0, 0), 2);
        due(13, "minded by none", x.friend(0, 1), 0);
        x.minds(0, 0, 5);
        x.minds(1, 0, 4);
        due(13, "by one", x.friend(0, 2), 1);
        due(13, "by one is not minded", x.friend(0, 1), 0);
        x.minds(2, 0, 10);
        due(13, "the friend counts, too", x.friend(0, 2), 2);
        due(13, "by two", x.friend(0, 1), 1);
        x.comes(0, 0);
        due(13, "those who never come count, too", x.friend(0, 1), 1);
        due(13, "what 3", x.friend(0, 3), OUTSIDE);
        due(13, "what -1", x.friend(0, -1), OUTSIDE);
        due(13, "no such candidate", x.friend(1, 0), UNKNOWN);
        due(13, "UNKNOWN goes ahead", x.friend(-1, 3), UNKNOWN);
    }

    private static void black() {
        BlackBalls x = withRules("b1q0y", "b1q0c");
        x.member(0, 0, 10);
        x.member(1, 0, 10);
        x.member(2, 3, 10);
        x.member(3, 0, 10);
        x.member(4, 0, 10);
        x.candidate(0);
        x.candidate(1);
        for (int member = 0; member < 5; member++) {
            x.minds(member, 0, 7);
            x.minds(member, 1, 7);
        }
        due(14, "the friend", x.black(0, 0, 31, 0), 0);
        due(14, "a member as it minds", x.black(0, 1, 31, 0), 7);
        due(14, "a feared, count not told, five came", x.black(0, 0, 31, 1), 7);
        due(14, "a feared, count not told, four came", x.black(0, 0, 15, 1), 7);
        due(14, "a feared, count not told, three came", x.black(0, 0, 7, 1), 3);
        due(14, "a feared, count told", x.black(1, 0, 31, 1), 3);
        due(14, "a feared friend", x.black(0, 1, 31, 1), 0);
        due(14, "a mistaken: 7 times 7 and 3 times 3, by 10", x.black(0, 0, 31, 2), 5);
        x.minds(2, 0, 1);
        due(14, "a mistaken: 1 times 7 and 3 times 9, by 10", x.black(0, 0, 31, 2), 3);
        due(14, "a vengeful, n put it up", x.black(0, 0, 31, 3), 10);
        due(14, "a vengeful, another did", x.black(0, 1, 31, 3), 7);
        due(14, "a traded, n put it up", x.black(0, 0, 31, 4), 0);
        due(14, "a traded, another did", x.black(0, 1, 31, 4), 7);
        due(14, "none of them", x.black(0, 0, 30, 0), OUTSIDE);
        due(14, "comers 0", x.black(0, 0, 0, 0), OUTSIDE);
        due(14, "comers not there", x.black(0, 0, 33, 0), OUTSIDE);
        due(14, "comers below 0", x.black(0, 0, -1, 0), OUTSIDE);
        due(14, "no such rule", x.black(2, 0, 31, 0), UNKNOWN);
        due(14, "no such candidate", x.black(0, 2, 31, 0), UNKNOWN);
        due(14, "no such member", x.black(0, 0, 31, 5), UNKNOWN);
        due(14, "member -1, UNKNOWN goes ahead", x.black(0, 0, 0, -1), UNKNOWN);
    }

    /** Three plain members who mind candidate 0 by 2, 5, 5, put up by a fourth; nobody minds candidate 1. */
    private static BlackBalls threeWhoMind(String... rules) {
        BlackBalls x = withRules(rules);
        plainMembers(x, 4);
        x.candidate(3);
        x.candidate(3);
        x.minds(0, 0, 2);
        x.minds(1, 0, 5);
        x.minds(2, 0, 5);
        return x;
    }

    private static void balls() {
        BlackBalls x = threeWhoMind("b1q8y");
        // (0.8 + 0.2 z) (0.5 + 0.5 z) (0.5 + 0.5 z) = 0.2 + 0.45 z + 0.3 z z + 0.05 z z z
        int[][] want = {{1, 5}, {9, 20}, {3, 10}, {1, 20}, {0, 1}, {0, 1}, {0, 1}, {0, 1}, {0, 1}};
        for (int k = 0; k <= 8; k++) {
            fraction(15, "k " + k, x.balls(0, 0, 15, k, 0), x.balls(0, 0, 15, k, 1), want[k][0], want[k][1]);
        }
        fraction(15, "sure", x.balls(0, 1, 15, 0, 0), x.balls(0, 1, 15, 0, 1), 1, 1);
        due(15, "k 9", x.balls(0, 0, 15, 9, 0), OUTSIDE);
        due(15, "k -1", x.balls(0, 0, 15, -1, 0), OUTSIDE);
        due(15, "part 2", x.balls(0, 0, 15, 0, 2), OUTSIDE);
        due(15, "part -1", x.balls(0, 0, 15, 0, -1), OUTSIDE);
        due(15, "comers 16", x.balls(0, 0, 16, 0, 0), OUTSIDE);
        due(15, "no such rule", x.balls(1, 0, 15, 0, 0), UNKNOWN);
        due(15, "no such candidate", x.balls(0, 2, 15, 9, 0), UNKNOWN);
    }

    private static void in() {
        BlackBalls x = threeWhoMind("b1q0y", "b2q4y", "b1q0ty", "r2q0c", "b2q5y", "r20q3ty");
        fraction(16, "no black one", x.in(0, 0, 15, 0), x.in(0, 0, 15, 1), 1, 5);
        fraction(16, "one at most", x.in(1, 0, 15, 0), x.in(1, 0, 15, 1), 13, 20);
        fraction(16, "twice: 1 less 0.8 times 0.8", x.in(2, 0, 15, 0), x.in(2, 0, 15, 1), 9, 25);
        fraction(16, "one in two: two black ones of four shut out", x.in(3, 0, 15, 0), x.in(3, 0, 15, 1), 13, 20);
        fraction(16, "one in two: two of three do, one does not", x.in(3, 0, 7, 0), x.in(3, 0, 7, 1), 13, 20);
        fraction(16, "fewer than quorum", x.in(4, 0, 15, 0), x.in(4, 0, 15, 1), 0, 1);
        fraction(16, "quorum just missed", x.in(1, 0, 7, 0), x.in(1, 0, 7, 1), 0, 1);
        fraction(16, "one in twenty, twice", x.in(5, 0, 7, 0), x.in(5, 0, 7, 1), 9, 25);
        fraction(16, "one in twenty, twice, quorum missed", x.in(5, 0, 3, 0), x.in(5, 0, 3, 1), 0, 1);
        fraction(16, "nobody minds", x.in(2, 1, 15, 0), x.in(2, 1, 15, 1), 1, 1);
        due(16, "part 2", x.in(0, 0, 15, 2), OUTSIDE);
        due(16, "comers 0", x.in(0, 0, 0, 0), OUTSIDE);
        due(16, "comers below 0", x.in(0, 0, Integer.MIN_VALUE, 0), OUTSIDE);
        due(16, "no such rule", x.in(6, 0, 15, 0), UNKNOWN);
        due(16, "no such candidate", x.in(0, -1, 15, 2), UNKNOWN);
        BlackBalls eight = withRules("b1q0y");
        for (int i = 0; i < 8; i++) {
            eight.member(2, 1, 10);
        }
        eight.candidate(0);
        fraction(16, "eight: 0.9 to the 7", eight.in(0, 0, 255, 0), eight.in(0, 0, 255, 1), 4782969, 10000000);
    }

    private static void large() {
        BlackBalls x = withRules("b1q0y", "b1q2y", "b1q0ty", "r2q0y");
        x.member(0, 0, 5);
        x.member(0, 0, 4);
        x.candidate(0);
        x.minds(1, 0, 5);
        // Just the first comes: 0.3; just the second: 0.2, lets in by half; both: 0.2, by half.
        fraction(17, "quorum 0", x.large(0, 0, 0), x.large(0, 0, 1), 1, 2);
        fraction(17, "quorum 2", x.large(1, 0, 0), x.large(1, 0, 1), 1, 10);
        fraction(17, "one in two", x.large(3, 0, 0), x.large(3, 0, 1), 1, 2);
        due(17, "twice", x.large(2, 0, 0), STATE);
        due(17, "part goes ahead of twice", x.large(2, 0, 2), OUTSIDE);
        due(17, "part -1", x.large(0, 0, -1), OUTSIDE);
        due(17, "no such rule", x.large(4, 0, 2), UNKNOWN);
        due(17, "no such candidate", x.large(2, 1, 0), UNKNOWN);
        x.comes(0, 0);
        x.comes(1, 0);
        fraction(17, "nobody comes", x.large(0, 0, 0), x.large(0, 0, 1), 0, 1);
        BlackBalls y = withRules("b1q0y", "b1q0c");
        for (int i = 0; i < 4; i++) {
            y.member(1, 0, i == 1 ? 10 : 0);
        }
        y.candidate(0);
        y.minds(1, 0, 9);
        fraction(17, "a feared counts all four as come", y.large(0, 0, 0), y.large(0, 0, 1), 1, 10);
        fraction(17, "but the count is told", y.large(1, 0, 0), y.large(1, 0, 1), 3, 5);
    }

    private static void wrongAndBest() {
        BlackBalls x = threeWhoMind("b1q0y", "b2q0y", "r4q0y", "b8q0y");
        due(18, "minded and let in, or not minded and not: 0.2 and 0, by 10 to the 8", x.wrong(0, 15), 20_000_000L);
        due(18, "b2", x.wrong(1, 15), 65_000_000L);
        due(18, "b8 shuts out nobody", x.wrong(3, 15), 100_000_000L);
        due(18, "of one comer, by 100", x.wrong(0, 1), 80);
        due(18, "no such rule", x.wrong(4, 0), UNKNOWN);
        due(18, "comers", x.wrong(0, 0), OUTSIDE);
        due(18, "comers not there", x.wrong(0, 16), OUTSIDE);
        x.minds(2, 0, 4);
        due(18, "not minded: what lacks of 1: 0.8 by 0.5 by 0.6 is 0.24", x.wrong(0, 15), 76_000_000L);
        due(19, "not minded: b8", x.best(15), 3);
        x.minds(2, 0, 5);
        due(19, "minded: b1 and r4 alike, the least", x.best(15), 0);
        due(19, "one comer", x.best(1), 0);
        due(19, "comers 0", x.best(0), OUTSIDE);
        due(19, "comers 16", x.best(16), OUTSIDE);
        BlackBalls y = new BlackBalls();
        due(19, "OUTSIDE goes ahead of no rules", y.best(1), OUTSIDE);
        y.member(0, 0, 0);
        due(19, "no rules", y.best(1), NONE);
        write(y, "b1q0y");
        y.rule();
        due(18, "no candidates", y.wrong(0, 1), 0);
        due(19, "no candidates, the least", y.best(1), 0);
    }

    private static void who() {
        BlackBalls x = threeWhoMind("b2q0y", "b4q8ty");
        // k 1: member 0 with 0.2 by 0.25, of 0.45 in all.
        fraction(20, "one counted", x.who(0, 0, 15, 0, 1, 0), x.who(0, 0, 15, 0, 1, 1), 1, 9);
        fraction(20, "none counted", x.who(0, 0, 15, 0, 0, 0), x.who(0, 0, 15, 0, 0, 1), 0, 1);
        fraction(20, "three counted", x.who(0, 0, 15, 0, 3, 0), x.who(0, 0, 15, 0, 3, 1), 1, 1);
        fraction(20, "the friend", x.who(0, 0, 15, 3, 3, 0), x.who(0, 0, 15, 3, 3, 1), 0, 1);
        // Shut out by two or three: 0.35; with member 0's: 0.2 by 0.75.
        fraction(20, "shut out", x.who(0, 0, 15, 0, -1, 0), x.who(0, 0, 15, 0, -1, 1), 3, 7);
        fraction(20, "four cannot be", x.who(0, 0, 15, 0, 4, 0), x.who(0, 0, 15, 0, 4, 1), NONE, NONE);
        fraction(20, "eight cannot be", x.who(0, 0, 15, 0, 8, 0), x.who(0, 0, 15, 0, 8, 1), NONE, NONE);
        fraction(20, "shut out cannot be", x.who(1, 0, 15, 0, -1, 0), x.who(1, 0, 15, 0, -1, 1), NONE, NONE);
        due(20, "k 9", x.who(0, 0, 15, 0, 9, 0), OUTSIDE);
        due(20, "k -2", x.who(0, 0, 15, 0, -2, 0), OUTSIDE);
        due(20, "part 2", x.who(0, 0, 15, 0, 0, 2), OUTSIDE);
        due(20, "none of them", x.who(0, 0, 14, 0, 0, 0), OUTSIDE);
        due(20, "comers 16", x.who(0, 0, 16, 0, 0, 0), OUTSIDE);
        due(20, "no such member", x.who(0, 0, 15, 4, 9, 0), UNKNOWN);
        due(20, "no such rule", x.who(2, 0, 15, 0, 0, 0), UNKNOWN);
        due(20, "no such candidate", x.who(0, 2, 15, 0, 0, 0), UNKNOWN);
        BlackBalls y = withRules("b2q0y");
        plainMembers(y, 3);
        y.member(1, 0, 10);
        y.candidate(0);
        y.minds(1, 0, 5);
        y.minds(3, 0, 4);
        // 0.5 by 0.6 of (0.5 by 0.6 and 0.5 by 0.4): the feared still sees four.
        fraction(20, "a feared beside it sees all who came", y.who(0, 0, 15, 1, 1, 0), y.who(0, 0, 15, 1, 1, 1), 3, 5);
    }

    private static void heard() {
        BlackBalls x = threeWhoMind("b1q8y");
        // 0.2 by 0.9 of that and 0.8 by 0.1
        fraction(21, "black", x.heard(0, 0, 15, 0, 9, true, 0), x.heard(0, 0, 15, 0, 9, true, 1), 9, 13);
        // 0.2 by 0.1 of that and 0.8 by 0.9
        fraction(21, "white", x.heard(0, 0, 15, 0, 9, false, 0), x.heard(0, 0, 15, 0, 9, false, 1), 1, 37);
        fraction(21, "always right", x.heard(0, 0, 15, 0, 10, true, 0), x.heard(0, 0, 15, 0, 10, true, 1), 1, 1);
        fraction(21, "never right", x.heard(0, 0, 15, 0, 0, true, 0), x.heard(0, 0, 15, 0, 0, true, 1), 0, 1);
        fraction(21, "the friend", x.heard(0, 0, 15, 3, 5, true, 0), x.heard(0, 0, 15, 3, 5, true, 1), 0, 1);
        fraction(21, "it cannot be", x.heard(0, 0, 15, 3, 10, true, 0), x.heard(0, 0, 15, 3, 10, true, 1), NONE, NONE);
        fraction(21, "white cannot be", x.heard(0, 0, 15, 3, 0, false, 0), x.heard(0, 0, 15, 3, 0, false, 1), NONE, NONE);
        due(21, "right 11", x.heard(0, 0, 15, 0, 11, true, 0), OUTSIDE);
        due(21, "right -1", x.heard(0, 0, 15, 0, -1, true, 0), OUTSIDE);
        due(21, "part 2", x.heard(0, 0, 15, 0, 5, true, 2), OUTSIDE);
        due(21, "none of them", x.heard(0, 0, 7, 3, 5, true, 0), OUTSIDE);
        due(21, "comers 0", x.heard(0, 0, 0, 3, 5, true, 0), OUTSIDE);
        due(21, "no such rule", x.heard(1, 0, 15, 0, 11, true, 0), UNKNOWN);
        due(21, "no such candidate", x.heard(0, 2, 15, 0, 5, true, 0), UNKNOWN);
        due(21, "no such member", x.heard(0, 0, 15, 4, 5, true, 0), UNKNOWN);
    }

    private static void sway() {
        BlackBalls x = threeWhoMind("b1q0y", "b1q4y", "b8q0y");
        // In is 0.2; without 0 0.25, without 1 or 2 0.4, without the friend 0.2.
        due(22, "of like ones the least", x.sway(0, 0, 15), 1);
        due(22, "of 0 and 2", x.sway(0, 0, 13), 2);
        due(22, "none does anything", x.sway(0, 1, 14), 1);
        due(22, "each breaks the quorum", x.sway(1, 0, 15), 0);
        due(22, "the only one", x.sway(0, 0, 4), 2);
        due(22, "comers 0", x.sway(0, 0, 0), OUTSIDE);
        due(22, "comers 16", x.sway(0, 0, 16), OUTSIDE);
        due(22, "no such rule", x.sway(3, 0, 0), UNKNOWN);
        due(22, "no such candidate", x.sway(0, 2, 15), UNKNOWN);
        BlackBalls y = withRules("r4q0y");
        plainMembers(y, 5);
        y.candidate(0);
        y.minds(4, 0, 10);
        y.minds(3, 0, 1);
        // One black ball of five is not one in four. It lets in by 0.9; without 0 one of four shuts out: never.
        due(22, "less, by size", y.sway(0, 0, 31), 0);
    }

    private static void wordAndSeen() {
        BlackBalls x = threeWhoMind("b1q0y", "b1q5y", "b2q0ty");
        x.candidate(0);
        x.minds(1, 2, 3);
        // In by rule 0: 0.2, 1, 0.7.
        due(23, "below 2 tenths", x.word(0, 15, 2), 0);
        due(23, "below 3 tenths", x.word(0, 15, 3), 1);
        due(23, "below 7 tenths", x.word(0, 15, 7), 1);
        due(23, "below 8 tenths", x.word(0, 15, 8), 5);
        due(23, "below 10 tenths", x.word(0, 15, 10), 5);
        due(23, "below 0 tenths", x.word(1, 15, 0), 0);
        due(23, "fewer than quorum", x.word(1, 15, 1), 7);
        due(23, "tenths 11", x.word(0, 15, 11), OUTSIDE);
        due(23, "tenths -1", x.word(0, 15, -1), OUTSIDE);
        due(23, "comers 0", x.word(0, 0, 5), OUTSIDE);
        due(23, "comers 16", x.word(0, 16, 5), OUTSIDE);
        due(23, "no such rule", x.word(3, 0, 11), UNKNOWN);
        fraction(24, "all stand: 0.8 and 0.3", x.seen(0, 15, 0, 0), x.seen(0, 15, 0, 1), 11, 10);
        fraction(24, "one withdraws", x.seen(0, 15, 3, 0), x.seen(0, 15, 3, 1), 3, 10);
        fraction(24, "two withdraw", x.seen(0, 15, 8, 0), x.seen(0, 15, 8, 1), 0, 1);
        fraction(24, "nobody can be let in", x.seen(1, 15, 0, 0), x.seen(1, 15, 0, 1), 3, 1);
        fraction(24, "all withdraw", x.seen(1, 15, 1, 0), x.seen(1, 15, 1, 1), 0, 1);
        fraction(24, "twice: 0.35 by 0.35", x.seen(2, 15, 0, 0), x.seen(2, 15, 0, 1), 49, 400);
        due(24, "tenths 11", x.seen(0, 15, 11, 0), OUTSIDE);
        due(24, "tenths -1", x.seen(0, 15, -1, 0), OUTSIDE);
        due(24, "part 2", x.seen(0, 15, 5, 2), OUTSIDE);
        due(24, "comers 0", x.seen(0, 0, 5, 0), OUTSIDE);
        due(24, "no such rule", x.seen(3, 0, 5, 0), UNKNOWN);
        BlackBalls y = withRules("b1q0y");
        y.member(0, 0, 0);
        due(23, "no candidates", y.word(0, 1, 10), 0);
        fraction(24, "no candidates", y.seen(0, 1, 10, 0), y.seen(0, 1, 10, 1), 0, 1);
    }

    private static void evening() {
        BlackBalls x = withRules("b1q0y", "b1q0ty", "b1q3ty", "b8q0ty");
        plainMembers(x, 2);
        x.candidate(0);
        // From 0: 12345 (draws 0), 1406932606 (21468: 8), 654583775 (9988: 8), 1449466924 (22117: 7)
        due(25, "one comer, not the friend, minds by 0", x.evening(0, 0, 2, 0, 0), 0);
        due(25, "let in", x.evening(0, 0, 2, 0, 1), 1);
        due(25, "one draw", x.evening(0, 0, 2, 0, 2), 12345);
        due(25, "the friend draws, too", x.evening(0, 0, 3, 0, 2), 1406932606);
        x.minds(1, 0, 8);
        due(25, "8 is not below 8", x.evening(0, 0, 3, 0, 0), 0);
        x.minds(1, 0, 9);
        due(25, "8 is below 9", x.evening(0, 0, 3, 0, 0), 1);
        due(25, "not let in", x.evening(0, 0, 3, 0, 1), 0);
        due(25, "a second round: it draws 8 and 7", x.evening(1, 0, 3, 0, 0), 1);
        due(25, "the seed behind it", x.evening(1, 0, 3, 0, 2), 1449466924);
        due(25, "shut out again", x.evening(1, 0, 3, 0, 1), 0);
        x.minds(1, 0, 1);
        due(25, "of one comer the first draw 0 is below 1, the second is not", x.evening(1, 0, 2, 0, 0), 0);
        due(25, "let in by the second round", x.evening(1, 0, 2, 0, 1), 1);
        due(25, "not by one round", x.evening(0, 0, 2, 0, 1), 0);
        due(25, "no second round, if the first lets in", x.evening(3, 0, 2, 0, 2), 12345);
        due(25, "fewer than quorum: no round", x.evening(2, 0, 3, 7, 0), NONE);
        due(25, "fewer than quorum: not let in", x.evening(2, 0, 3, 7, 1), 0);
        due(25, "fewer than quorum: no draw", x.evening(2, 0, 3, 7, 2), 7);
        due(25, "seed -1", x.evening(0, 0, 3, -1, 0), OUTSIDE);
        due(25, "the least seed", x.evening(0, 0, 3, Integer.MIN_VALUE, 0), OUTSIDE);
        due(25, "the largest seed", x.evening(0, 0, 2, Integer.MAX_VALUE, 2), (1103515245L * Integer.MAX_VALUE + 12345) % (1L << 31));
        due(25, "what 3", x.evening(0, 0, 3, 0, 3), OUTSIDE);
        due(25, "what -1", x.evening(0, 0, 3, 0, -1), OUTSIDE);
        due(25, "comers 0", x.evening(0, 0, 0, 0, 0), OUTSIDE);
        due(25, "no such rule", x.evening(4, 0, 0, 0, 0), UNKNOWN);
        due(25, "no such candidate", x.evening(0, 1, 3, -1, 0), UNKNOWN);
    }

    private static void trade() {
        BlackBalls x = withRules("b1q0y", "b8q0y", "b1q4y", "b2q0ty");
        plainMembers(x, 3);
        x.candidate(0);
        x.candidate(1);
        x.minds(0, 1, 9);
        x.minds(1, 0, 8);
        // Each wants the other's kept out, and one black ball does it.
        due(26, "both black", x.trade(0, 0, 1, 0, 1), 8);
        due(26, "no ball does anything: all rest", x.trade(1, 0, 1, 0, 1), 15);
        due(26, "fewer than quorum: all rest", x.trade(2, 0, 1, 0, 1), 15);
        x.minds(0, 1, 2);
        due(26, "x wants b: y black alone", x.trade(0, 0, 1, 0, 1), 4);
        due(26, "told the other way round", x.trade(0, 1, 0, 1, 0), 2);
        x.minds(1, 0, 5);
        due(26, "y does not care: 0 and 2", x.trade(0, 0, 1, 0, 1), 5);
        x.minds(2, 0, 5);
        x.minds(2, 1, 5);
        due(26, "a third one's black ones shut out anyway", x.trade(0, 0, 1, 0, 1), 15);
        x.minds(0, 1, 9);
        x.minds(1, 0, 8);
        due(26, "two black ones, twice the same", x.trade(3, 0, 1, 0, 1), 8);
        x.minds(2, 0, 4);
        due(26, "4 is no black ball: a is let in, whatever y puts", x.trade(3, 0, 1, 0, 1), 10);
        due(26, "x is y", x.trade(0, 1, 1, 0, 1), UNKNOWN);
        due(26, "a is b", x.trade(0, 0, 1, 1, 1), UNKNOWN);
        due(26, "no such rule", x.trade(4, 0, 1, 0, 1), UNKNOWN);
        due(26, "no such x", x.trade(0, 3, 1, 0, 1), UNKNOWN);
        due(26, "no such y", x.trade(0, 0, -1, 0, 1), UNKNOWN);
        due(26, "no such a", x.trade(0, 0, 1, 2, 1), UNKNOWN);
        due(26, "no such b", x.trade(0, 0, 1, 0, -1), UNKNOWN);
    }

    private static void veto() {
        BlackBalls x = new BlackBalls();
        due(27, "the last evening, 1", x.veto(1, 1, 1), 1);
        due(27, "the last evening, 0", x.veto(1, 1, 0), 0);
        due(27, "none left", x.veto(1, 0, 10), 0);
        due(27, "5 is not more than the 5 to be expected", x.veto(2, 1, 5), 0);
        due(27, "6 is", x.veto(2, 1, 6), 1);
        due(27, "as many as evenings", x.veto(2, 2, 1), 1);
        due(27, "as many as evenings, 0", x.veto(2, 2, 0), 0);
        // Of two more evenings 70/11 is to be expected.
        due(27, "three evenings, 6", x.veto(3, 1, 6), 0);
        due(27, "three evenings, 7", x.veto(3, 1, 7), 1);
        due(27, "n 0", x.veto(0, 1, 1), OUTSIDE);
        due(27, "n 9", x.veto(9, 1, 1), OUTSIDE);
        due(27, "v -1", x.veto(1, -1, 1), OUTSIDE);
        due(27, "v 4", x.veto(1, 4, 1), OUTSIDE);
        due(27, "x -1", x.veto(1, 1, -1), OUTSIDE);
        due(27, "x 11", x.veto(1, 1, 11), OUTSIDE);
        due(27, "x 11, none left", x.veto(1, 0, 11), OUTSIDE);
        due(27, "eight evenings", x.veto(8, 3, 10), 1);
    }

    private static void worth() {
        BlackBalls x = new BlackBalls();
        fraction(28, "one of one", x.worth(1, 1, 0), x.worth(1, 1, 1), 5, 1);
        fraction(28, "one of two", x.worth(2, 1, 0), x.worth(2, 1, 1), 70, 11);
        fraction(28, "two of two", x.worth(2, 2, 0), x.worth(2, 2, 1), 10, 1);
        fraction(28, "three of two", x.worth(2, 3, 0), x.worth(2, 3, 1), 10, 1);
        // Seven times 70/11, and 7 to 10, by 11.
        fraction(28, "one of three", x.worth(3, 1, 0), x.worth(3, 1, 1), 864, 121);
        fraction(28, "none", x.worth(8, 0, 0), x.worth(8, 0, 1), 0, 1);
        due(28, "n 0", x.worth(0, 1, 0), OUTSIDE);
        due(28, "n 9", x.worth(9, 1, 0), OUTSIDE);
        due(28, "v -1", x.worth(1, -1, 0), OUTSIDE);
        due(28, "v 4", x.worth(1, 4, 0), OUTSIDE);
        due(28, "part 2", x.worth(1, 1, 2), OUTSIDE);
        due(28, "part -1", x.worth(1, 1, -1), OUTSIDE);
    }

    private static long seedBehind(long seed, int draws) {
        long s = seed;
        for (int i = 0; i < draws; i++) {
            s = (1103515245L * s + 12345) % 2147483648L;
        }
        return s;
    }

    private static void years() {
        BlackBalls x = withRules("b8q0y", "b1q8y", "b8q0ty", "b1q0y");
        due(29, "no year: eight people", x.years(0, 0, 0, 0), 8);
        due(29, "no year: nobody let in", x.years(0, 0, 0, 2), 0);
        due(29, "no year: eight draws", x.years(0, 0, 0, 3), seedBehind(0, 8));
        TreeSet<Long> tastes = new TreeSet<>();
        for (int i = 1; i <= 8; i++) {
            tastes.add(seedBehind(0, i) / 65536 % 10);
        }
        due(29, "no year: unlike tastes", x.years(0, 0, 0, 1), tastes.size());
        due(29, "seven cannot put eight black ones", x.years(0, 60, 1, 0), 8);
        due(29, "all are let in", x.years(0, 60, 1, 2), 60);
        due(29, "eight draws each year", x.years(0, 60, 1, 3), seedBehind(1, 8 + 60 * 8));
        due(29, "no second round, if the first lets in", x.years(2, 60, 1, 3), seedBehind(1, 8 + 60 * 8));
        due(29, "never a quorum: three are left", x.years(1, 5, 1, 0), 3);
        due(29, "never a quorum: one draw each year", x.years(1, 5, 1, 3), seedBehind(1, 8 + 5));
        due(29, "nobody is left", x.years(1, 8, 1, 0), 0);
        due(29, "nobody has no tastes", x.years(1, 8, 1, 1), 0);
        due(29, "still one is put up each year", x.years(1, 60, 1, 3), seedBehind(1, 8 + 60));
        due(29, "nobody was let in", x.years(1, 60, 1, 2), 0);
        due(29, "no such rule", x.years(4, 61, 0, 0), UNKNOWN);
        due(29, "years 61", x.years(0, 61, 0, 0), OUTSIDE);
        due(29, "years -1", x.years(0, -1, 0, 0), OUTSIDE);
        due(29, "seed -1", x.years(0, 1, -1, 0), OUTSIDE);
        due(29, "what 4", x.years(0, 1, 0, 4), OUTSIDE);
        due(29, "what -1", x.years(0, 1, 0, -1), OUTSIDE);
        due(29, "a club is new each time", x.years(0, 0, 0, 0), 8);
        due(29, "by nobody nobody is let in, though quorum is 0", x.years(3, 60, 0, 0), 0);
    }

    private static void lot() {
        BlackBalls x = new BlackBalls();
        due(30, "no such candidate", x.lot(0, 0), UNKNOWN);
        plainMembers(x, 2);
        for (int i = 0; i < 3; i++) {
            x.candidate(0);
        }
        fraction(30, "one of three", x.lot(1, 0), x.lot(1, 1), 1, 3);
        x.minds(0, 1, 5);
        x.minds(1, 1, 5);
        fraction(30, "a minded one", x.lot(1, 0), x.lot(1, 1), 0, 1);
        fraction(30, "one of two", x.lot(2, 0), x.lot(2, 1), 1, 2);
        for (int i = 0; i < 3; i++) {
            x.minds(0, i, 10);
            x.minds(1, i, 10);
        }
        fraction(30, "all are minded", x.lot(0, 0), x.lot(0, 1), 0, 1);
        due(30, "part 2", x.lot(0, 2), OUTSIDE);
        due(30, "part -1", x.lot(0, -1), OUTSIDE);
        due(30, "UNKNOWN goes ahead", x.lot(3, 2), UNKNOWN);
        due(30, "candidate -1", x.lot(-1, 0), UNKNOWN);
    }

    private static void image() {
        BlackBalls x = new BlackBalls();
        due(31, "of nobody", x.image(), 0);
        due(31, "it counts as kept", x.restore(), 0);
        plainMembers(x, 2);
        x.candidate(0);
        due(31, "of two", x.image(), 2);
        x.comes(0, 4);
        x.minds(1, 0, 6);
        due(31, "the latest", x.image(), 2);
        x.comes(0, 5);
        x.minds(1, 0, 7);
        x.restore();
        due(31, "the latest comes", x.about(0, 2), 4);
        due(31, "the latest minds", x.minds(1, 0, NONE), 6);
    }

    private static void restore() {
        BlackBalls x = new BlackBalls();
        due(32, "none was kept", x.restore(), STATE);
        plainMembers(x, 2);
        x.candidate(0);
        x.minds(0, 0, 3);
        x.image();
        write(x, "b1q0y");
        x.rule();
        write(x, "r2");
        x.member(3, 0, 7);
        x.candidate(2);
        x.comes(0, 1);
        x.comes(2, 2);
        x.minds(0, 0, 8);
        x.minds(1, 0, 9);
        x.minds(2, 0, 4);
        x.minds(0, 1, 5);
        x.minds(2, 1, 6);
        due(32, "how many members there are", x.restore(), 3);
        due(32, "comes", x.about(0, 2), 10);
        due(32, "minds", x.minds(0, 0, NONE), 3);
        due(32, "minds of another", x.minds(1, 0, NONE), 0);
        due(32, "a later member's comes", x.about(2, 2), 2);
        due(32, "a later member's kind", x.about(2, 0), 3);
        due(32, "a later member minds", x.minds(2, 0, NONE), 4);
        due(32, "a later candidate is minded", x.minds(0, 1, NONE), 5);
        due(32, "both later", x.minds(2, 1, NONE), 6);
        due(32, "later candidates", x.count(1), 2);
        due(32, "later rules", x.count(2), 1);
        due(32, "the page", x.count(3), 2);
        x.minds(0, 0, 10);
        due(32, "again", x.restore(), 3);
        due(32, "again, minds", x.minds(0, 0, NONE), 3);
    }

    private static void count() {
        BlackBalls x = withRules("b1q0y", "b1q0y", "b1q0y");
        plainMembers(x, 2);
        for (int i = 0; i < 4; i++) {
            x.candidate(0);
        }
        write(x, "hello");
        x.minds(0, 2, 5);
        x.minds(1, 2, 9);
        x.minds(1, 3, 9);
        due(33, "members", x.count(0), 2);
        due(33, "candidates", x.count(1), 4);
        due(33, "rules", x.count(2), 3);
        due(33, "letters", x.count(3), 5);
        due(33, "minded", x.count(4), 1);
        due(33, "5", x.count(5), OUTSIDE);
        due(33, "-1", x.count(-1), OUTSIDE);
        for (int far : FAR) {
            due(33, "far", x.count(far), OUTSIDE);
        }
    }

    private static long digestOf(long... numbers) {
        long h = 487;
        for (long number : numbers) {
            h = 31 * h + number;
        }
        return h;
    }

    private static void digest() {
        due(34, "of a new object", new BlackBalls().digest(), 13942396537L);
        due(34, "of rules alone", withRules("b2q1ty").digest(), digestOf(2, 0, 1, 1, 0, 0, 0, 1, 0, 0));
        BlackBalls x = withRules("b1q0y", "r3q2tc");
        x.member(0, 0, 10);
        x.member(2, 4, 3);
        x.member(3, 1, 2);
        due(34, "without candidates", x.digest(),
            digestOf(1, 0, 0, 0, 0, 0, 3, 2, 1, 1, 0, 0, 10, 2, 4, 3, 3, 1, 2, 3, 0, 2, 0, 0));
        x.candidate(0);
        x.candidate(1);
        x.minds(0, 1, 5);
        x.minds(2, 1, 6);
        x.letters(word("b~"));
        // Candidate 0: BLACK 0, 4, 0; candidate 1: 5, 0, 10. One black one of three shuts out by either.
        due(34, "whole", x.digest(), digestOf(1, 0, 0, 0, 0, 0, 3, 2, 1, 1,
            0, 0, 10, 0, 5, 2, 4, 3, 0, 0, 3, 1, 2, 0, 6,
            0, 0, 0, 1, 1, 2,
            3, 5, 0, 1, 21, 25, 0, 1,
            'b', '~', 3, 2, 2, 2, 1));
        long before = x.digest();
        x.in(0, 0, 7, 0);
        x.large(0, 1, 0);
        x.years(1, 60, 3, 0);
        x.evening(1, 0, 7, 3, 0);
        x.worth(8, 3, 0);
        x.fault();
        x.image();
        due(34, "asking changes nothing", x.digest(), before);
    }
}
