import java.util.function.Supplier;
import java.util.function.ToLongFunction;

/** What the tests of the boundary cases share: each tells the document's sentence, in short, ahead of what it asks. */
abstract class Boundary {
    static final int NONE = -1, UNKNOWN = -101, OUTSIDE = -102, STATE = -103, FULL = -104;

    private static int wrong = 0;
    private static int sentences = 0;
    private static int asked = 0;
    private static String at = "";

    static void sentence(int promise, String words) {
        mustHaveAsked();
        sentences++;
        asked = 0;
        at = "promise " + promise + ", \"" + words + "\"";
    }

    static void due(String call, long got, long want) {
        asked++;
        if (got != want) {
            wrong++;
            System.out.println(at + ": " + call + " answered " + got + ", due is " + want);
        }
    }

    static void fraction(String call, long above, long below, long wantAbove, long wantBelow) {
        due(call + ", above", above, wantAbove);
        due(call + ", below", below, wantBelow);
    }

    /** A refused call: its answer, and that it changed neither what the object tells nor its image, beside a twin that was not asked. */
    static void refused(Supplier<BlackBalls> made, String call, ToLongFunction<BlackBalls> ask, long want) {
        BlackBalls x = made.get();
        BlackBalls twin = made.get();
        due(call, ask.applyAsLong(x), want);
        same(call + " changed something", told(x), told(twin));
        due(call + ": restore", x.restore(), twin.restore());
        same(call + " changed the image", told(x), told(twin));
    }

    private static void same(String what, String got, String want) {
        asked++;
        if (!got.equals(want)) {
            wrong++;
            System.out.println(at + ": " + what + ": " + got + " instead of " + want);
        }
    }

    private static void mustHaveAsked() {
        if (sentences > 0 && asked == 0) {
            wrong++;
            System.out.println(at + " asks nothing");
        }
    }

    /** Ends the run, with exit code 1 if an answer was not as due. */
    static void end() {
        mustHaveAsked();
        System.out.println(wrong == 0 ? sentences + " sentences hold" : wrong + " answers are not as due");
        if (wrong != 0) {
            System.exit(1);
        }
    }

    /** All that an object tells of itself, in some 130 calls at most. */
    static String told(BlackBalls x) {
        StringBuilder text = new StringBuilder();
        int members = x.count(0);
        int candidates = x.count(1);
        int rules = x.count(2);
        text.append(members).append(' ').append(candidates).append(' ').append(rules).append(' ');
        text.append(x.count(3)).append(' ').append(x.count(4)).append(' ');
        text.append(x.fault()).append(' ').append(x.digest());
        for (int rule = 0; rule < rules; rule++) {
            for (int what = 0; what <= 4; what++) {
                text.append(what == 0 ? " rule " : " ").append(x.ruleTold(rule, what));
            }
        }
        for (int member = 0; member < members; member++) {
            for (int what = 0; what <= 2; what++) {
                text.append(what == 0 ? " member " : " ").append(x.about(member, what));
            }
            for (int candidate = 0; candidate < candidates; candidate++) {
                text.append(candidate == 0 ? " minds " : " ").append(x.minds(member, candidate, NONE));
            }
        }
        for (int candidate = 0; candidate < candidates; candidate++) {
            for (int what = 0; what <= 2; what++) {
                text.append(what == 0 ? " candidate " : " ").append(x.friend(candidate, what));
            }
        }
        return text.toString();
    }

    // ---- objects to begin from

    static long word(String text) {
        long w = 0;
        for (int i = text.length() - 1; i >= 0; i--) {
            w = w << 8 | text.charAt(i);
        }
        return w;
    }

    static void write(BlackBalls x, String text) {
        for (int at = 0; at < text.length(); at += 8) {
            x.letters(word(text.substring(at, Math.min(text.length(), at + 8))));
        }
    }

    static BlackBalls withPage(String text) {
        BlackBalls x = new BlackBalls();
        write(x, text);
        return x;
    }

    static BlackBalls withRules(String... texts) {
        BlackBalls x = new BlackBalls();
        for (String text : texts) {
            write(x, text);
            x.rule();
        }
        return x;
    }

    /** Rules, and so many plain members who always come. */
    static BlackBalls withMembers(int members, String... texts) {
        BlackBalls x = withRules(texts);
        for (int i = 0; i < members; i++) {
            x.member(0, 0, 10);
        }
        return x;
    }

    /** Two rules, five members of all kinds, three candidates, a page, an image and something new behind it. */
    static BlackBalls someClub() {
        BlackBalls x = withRules("b2q1y", "r3q2tc");
        x.member(0, 0, 10);
        x.member(1, 0, 4);
        x.member(2, 3, 6);
        x.member(3, 0, 9);
        x.candidate(0);
        x.candidate(2);
        x.minds(0, 1, 5);
        x.minds(1, 0, 7);
        x.minds(3, 1, 6);
        x.image();
        x.member(4, 1, 5);
        x.candidate(4);
        x.comes(0, 3);
        x.minds(1, 0, 2);
        x.minds(4, 2, 8);
        write(x, "b1");
        return x;
    }

    /** As much of all as there may be: six rules, eight members, six candidates, twenty letters. */
    static BlackBalls fullClub() {
        BlackBalls x = withMembers(4, "b1q0y", "b8q8tc", "r2q0y", "r20q8tc", "b2q4y", "r3q1tc");
        x.member(1, 0, 0);
        x.member(2, 5, 10);
        x.member(3, 5, 5);
        x.member(4, 6, 5);
        for (int friend = 0; friend < 6; friend++) {
            x.candidate(friend);
        }
        for (int candidate = 0; candidate < 6; candidate++) {
            x.minds(7, candidate, 5 + candidate);
            x.minds(candidate, 5 - candidate, 10 - candidate);
        }
        x.image();
        x.comes(3, 7);
        x.minds(7, 5, 1);
        write(x, "b1q0tcxxxxxxxxxxxxxx");
        return x;
    }
}
