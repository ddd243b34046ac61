/** The boundary cases of promises 1 to 6: a new object, the page, the rules. */
public final class BoundaryRulesTest extends Boundary {
    public static void main(String[] args) {
        newObject();
        noLetter();
        upToEight();
        lowestByteFirst();
        byteAbove126();
        byteBehindZero();
        above20();
        outsideAheadOfFull();
        blankOfEmptyAndFull();
        faultOfNone();
        faultByLetter();
        firstOfSeveralFaults();
        pageThatIsNone();
        blacksFrom1To8();
        ratioFrom2To20();
        quorumFrom0To8();
        allRules();
        pageIsEmptyThen();
        sixRules();
        stateAheadOfFull();
        toldFrom0To4();
        toldOfNoRule();
        end();
    }

    private static void newObject() {
        sentence(1, "No MEMBERS, no CANDIDATES, no RULES.");
        for (int what = 0; what <= 4; what++) {
            due("count(" + what + ")", new BlackBalls().count(what), 0);
        }
        due("about(0, 0)", new BlackBalls().about(0, 0), UNKNOWN);
        due("friend(0, 0)", new BlackBalls().friend(0, 0), UNKNOWN);
        due("ruleTold(0, 0)", new BlackBalls().ruleTold(0, 0), UNKNOWN);
        due("candidate(0)", new BlackBalls().candidate(0), UNKNOWN);
        due("best(1)", new BlackBalls().best(1), OUTSIDE);
        due("fault()", new BlackBalls().fault(), 0);
        BlackBalls before = new BlackBalls();
        fullClub();
        due("an object beside a full one", before.count(0) + before.count(1) + before.count(2) + before.count(3), 0);
        due("an object behind a full one", new BlackBalls().count(0), 0);
    }

    // ---- letters

    private static void noLetter() {
        sentence(2, "until a byte that is 0");
        BlackBalls x = new BlackBalls();
        due("letters(0) of an empty page", x.letters(0), 0);
        due("one letter and 0", x.letters('b'), 1);
        due("letters(0) of one", x.letters(0), 1);
        due("seven letters and 0", x.letters(word("1234567")), 8);
        BlackBalls full = withPage("12345678901234567890");
        due("letters(0) of a full page", full.letters(0), 20);
    }

    private static void upToEight() {
        sentence(2, "Letters come behind THE PAGE, up to eight");
        for (int many = 0; many <= 8; many++) {
            BlackBalls x = new BlackBalls();
            due(many + " letters", x.letters(word("b1q0tcxx".substring(0, many))), many);
            due(many + " letters, those without fault", x.fault(), Math.min(many, 6));
        }
        BlackBalls x = withPage("b1q");
        x.letters(word("0y"));
        due("they come behind those ahead", x.rule(), 0);
    }

    private static void lowestByteFirst() {
        sentence(2, "the lowest byte first");
        BlackBalls x = new BlackBalls();
        x.letters('r' | '2' << 8 | '0' << 16 | 'q' << 24 | (long) '8' << 32 | (long) 't' << 40 | (long) 'c' << 48);
        due("r20q8tc", x.fault(), 7);
        x.blank();
        x.letters('c' | 't' << 8 | '8' << 16 | 'q' << 24 | (long) '0' << 32 | (long) '2' << 40 | (long) 'r' << 48);
        due("the other way round", x.fault(), 0);
    }

    private static void byteAbove126() {
        sentence(2, "OUTSIDE: a byte above 126");
        for (int at = 0; at < 8; at++) {
            long ahead = word("bbbbbbb".substring(0, at));
            for (long taken : new long[] {1, 2, 125, 126}) {
                due(taken + " in byte " + at, new BlackBalls().letters(ahead | taken << 8 * at), at + 1);
            }
            for (long off : new long[] {127, 128, 254, 255}) {
                long w = ahead | off << 8 * at;
                refused(Boundary::someClub, off + " in byte " + at, x -> x.letters(w), OUTSIDE);
            }
        }
        refused(Boundary::someClub, "all bytes 255", x -> x.letters(-1L), OUTSIDE);
        refused(Boundary::someClub, "the least long", x -> x.letters(Long.MIN_VALUE), OUTSIDE);
        refused(Boundary::someClub, "the largest long", x -> x.letters(Long.MAX_VALUE), OUTSIDE);
    }

    private static void byteBehindZero() {
        sentence(2, "or one behind a 0 that is not 0");
        for (int set = 0; set < 256; set++) {
            long w = 0;
            for (int at = 0; at < 8; at++) {
                w |= (set >> at & 1) * (1L << 8 * at);
            }
            // Those whose letters all stand ahead of the first 0.
            boolean taken = (set & set + 1) == 0;
            BlackBalls x = new BlackBalls();
            due("bytes " + Integer.toBinaryString(set), x.letters(w), taken ? Integer.bitCount(set) : OUTSIDE);
            due("letters then", x.count(3), taken ? Integer.bitCount(set) : 0);
        }
        refused(Boundary::someClub, "a 0, then a letter", x -> x.letters('q' << 8), OUTSIDE);
        refused(Boundary::someClub, "a letter in the last byte alone", x -> x.letters((long) 'q' << 56), OUTSIDE);
    }

    private static void above20() {
        sentence(2, "FULL: above 20");
        for (int had = 0; had <= 20; had++) {
            for (int more = 0; more <= 8; more++) {
                BlackBalls x = withPage("12345678901234567890".substring(0, had));
                long w = word("bbbbbbbb".substring(0, more));
                boolean taken = had + more <= 20;
                due(more + " letters behind " + had, x.letters(w), taken ? had + more : FULL);
                due("how many then", x.count(3), taken ? had + more : had);
            }
        }
        refused(Boundary::fullClub, "one more than 20", x -> x.letters('b'), FULL);
        refused(() -> withPage("b1q0tcb1q0tcb1"), "eight behind 14", x -> x.letters(word("12345678")), FULL);
        BlackBalls x = withPage("12345678901234567890");
        x.blank();
        due("eight on a page that was full", x.letters(word("b1q0tcxx")), 8);
    }

    private static void outsideAheadOfFull() {
        sentence(2, "OUTSIDE: a byte above 126, or one behind a 0 that is not 0; FULL: above 20");
        refused(Boundary::fullClub, "127 on a full page", x -> x.letters(127), OUTSIDE);
        refused(Boundary::fullClub, "a letter behind a 0 on a full page", x -> x.letters('b' << 8), OUTSIDE);
    }

    // ---- blank

    private static void blankOfEmptyAndFull() {
        sentence(3, "THE PAGE is empty: how many letters it had.");
        BlackBalls x = new BlackBalls();
        due("an empty page", x.blank(), 0);
        write(x, "b1q0tcxxxxxxxxxxxxxx");
        due("a full page", x.blank(), 20);
        due("it is empty then", x.count(3), 0);
        due("again", x.blank(), 0);
        due("the letters are gone", x.rule(), STATE);
        write(x, "b1q0");
        due("those behind the last ones are gone, too", x.rule(), STATE);
        due("no fault", x.fault(), 4);
    }

    // ---- fault

    private static void faultOfNone() {
        sentence(4, "how many letters it has, if there is none");
        due("an empty page", new BlackBalls().fault(), 0);
        for (String text : new String[] {"b1q0c", "b8q8ty", "r2q0y", "r20q8tc"}) {
            for (int many = 1; many <= text.length(); many++) {
                due(text.substring(0, many), withPage(text.substring(0, many)).fault(), many);
            }
        }
    }

    private static void faultByLetter() {
        sentence(4, "The place (from 0) of the first letter of THE PAGE that no RULE has there, behind those ahead of it");
        String[][] next = {{"", "br"}, {"b", "12345678"}, {"b1", "q"}, {"b8", "q"}, {"r", "123456789"}, {"r1", "0123456789"},
            {"r2", "0q"}, {"r3", "q"}, {"r9", "q"}, {"r10", "q"}, {"r19", "q"}, {"r20", "q"}, {"b1q", "012345678"},
            {"r20q", "012345678"}, {"b1q0", "tcy"}, {"b1q8", "tcy"}, {"b1q0t", "cy"}, {"b1q0c", ""}, {"b1q0y", ""},
            {"b1q0tc", ""}, {"r20q8ty", ""}};
        for (String[] one : next) {
            BlackBalls x = new BlackBalls();
            for (int code = 1; code <= 126; code++) {
                x.blank();
                x.letters(word(one[0]) | (long) code << 8 * one[0].length());
                boolean fits = one[1].indexOf(code) >= 0;
                due("letter " + code + " behind " + one[0], x.fault(), one[0].length() + (fits ? 1 : 0));
            }
        }
    }

    private static void firstOfSeveralFaults() {
        sentence(4, "the first letter of THE PAGE that no RULE has there");
        due("all letters are faults", withPage("xxxxxxxxxxxxxxxxxxxx").fault(), 0);
        due("a fault, then a rule", withPage("xb1q0c").fault(), 0);
        due("two faults", withPage("b1x0x").fault(), 2);
        due("a rule, then 13 letters", withPage("r20q8tcb1q0cb1q0cb1q").fault(), 7);
        due("the second digit of a blacks", withPage("b10q0c").fault(), 2);
        due("a 0 ahead of a ratio", withPage("r02q0c").fault(), 1);
        due("a third digit", withPage("r200q0c").fault(), 3);
    }

    // ---- rule

    private static void pageThatIsNone() {
        sentence(5, "STATE: it is none");
        refused(BlackBalls::new, "an empty page", BlackBalls::rule, STATE);
        for (String text : new String[] {"b1q0c", "b1q0ty", "r2q0y", "r20q8tc"}) {
            for (int many = 1; many < text.length(); many++) {
                String part = text.substring(0, many);
                refused(() -> withPage(part), part, BlackBalls::rule, STATE);
            }
            for (String more : new String[] {"c", "y", "t", "q", "0", text}) {
                refused(() -> withPage(text + more), text + more, BlackBalls::rule, STATE);
            }
        }
        for (String text : new String[] {"c", "y", "1q0c", "xb1q0c", "b1q0cccccccccccccccc", "B1q0c", "b1q0C", "b1q0ct", "b1cq0"}) {
            refused(() -> withPage(text), text, BlackBalls::rule, STATE);
        }
    }

    private static void takenOrNone(String text, boolean taken) {
        BlackBalls x = withPage(text);
        due(text, x.rule(), taken ? 0 : STATE);
        due(text + ", rules then", x.count(2), taken ? 1 : 0);
        due(text + ", letters then", x.count(3), taken ? 0 : text.length());
    }

    private static void blacksFrom1To8() {
        sentence(5, "\"b\" and BLACKS (1 to 8)");
        for (int blacks = 0; blacks <= 20; blacks++) {
            takenOrNone("b" + blacks + "q0c", blacks >= 1 && blacks <= 8);
        }
        takenOrNone("bq0c", false);
        takenOrNone("b01q0c", false);
    }

    private static void ratioFrom2To20() {
        sentence(5, "\"r\" and RATIO (2 to 20, without a 0 ahead)");
        for (int ratio = 0; ratio <= 101; ratio++) {
            takenOrNone("r" + ratio + "q0c", ratio >= 2 && ratio <= 20);
        }
        for (String ahead : new String[] {"r02", "r09", "r020", "r00", "r"}) {
            takenOrNone(ahead + "q0c", false);
        }
    }

    private static void quorumFrom0To8() {
        sentence(5, "\"q\" and QUORUM (0 to 8)");
        for (int quorum = 0; quorum <= 18; quorum++) {
            takenOrNone("b1q" + quorum + "c", quorum <= 8);
            takenOrNone("r20q" + quorum + "ty", quorum <= 8);
        }
        takenOrNone("b1qc", false);
        takenOrNone("b1q00c", false);
    }

    private static void ruleOf(String text, int[] told) {
        BlackBalls x = withPage(text);
        due(text, x.rule(), 0);
        for (int what = 0; what <= 4; what++) {
            due(text + " told " + what, x.ruleTold(0, what), told[what]);
        }
    }

    private static void allRules() {
        sentence(5, "then perhaps \"t\" (TWICE), then \"c\" (THE COUNT is told) or \"y\" (it is not)");
        for (int size = 1; size <= 20; size++) {
            for (int quorum = 0; quorum <= 8; quorum++) {
                for (int end = 0; end < 4; end++) {
                    String text = size + "q" + quorum + (end >= 2 ? "t" : "") + (end % 2 == 1 ? "c" : "y");
                    if (size <= 8) {
                        ruleOf("b" + text, new int[] {size, 0, quorum, end / 2, end % 2});
                    }
                    if (size >= 2) {
                        ruleOf("r" + text, new int[] {0, size, quorum, end / 2, end % 2});
                    }
                }
            }
        }
        for (String end : new String[] {"", "t", "tt", "ttc", "cy", "yc", "tct"}) {
            takenOrNone("b1q0" + end, false);
        }
    }

    private static void pageIsEmptyThen() {
        sentence(5, "THE PAGE is empty then");
        BlackBalls x = withPage("r20q8tc");
        due("the first", x.rule(), 0);
        due("letters", x.count(3), 0);
        due("nothing to blank", x.blank(), 0);
        due("it is not read again", x.rule(), STATE);
        due("there is one", x.count(2), 1);
    }

    private static void sixRules() {
        sentence(5, "RULES (6 at most, numbered); FULL");
        BlackBalls x = new BlackBalls();
        for (int i = 0; i < 6; i++) {
            write(x, "b" + (i + 1) + "q" + i + "c");
            due("rule " + i, x.rule(), i);
        }
        for (int i = 0; i < 6; i++) {
            due("blacks of " + i, x.ruleTold(i, 0), i + 1);
            due("quorum of " + i, x.ruleTold(i, 2), i);
        }
        refused(BoundaryRulesTest::sixAndAPage, "a seventh", BlackBalls::rule, FULL);
        BlackBalls y = sixAndAPage();
        y.rule();
        due("the page of a seventh stays", y.blank(), 7);
    }

    private static BlackBalls sixAndAPage() {
        BlackBalls x = withRules("b1q0c", "b1q0c", "b1q0c", "b1q0c", "b1q0c", "b1q0c");
        write(x, "r20q8ty");
        return x;
    }

    private static void stateAheadOfFull() {
        sentence(5, "STATE: it is none; FULL.");
        refused(Boundary::fullClub, "six rules, and a page that is none", BlackBalls::rule, STATE);
    }

    // ---- ruleTold

    private static void toldFrom0To4() {
        sentence(6, "Of a RULE: what = 0 BLACKS (0: RATIO), 1 RATIO (0: BLACKS), 2 QUORUM, 3 whether TWICE (1, 0), 4 whether THE COUNT is told.");
        BlackBalls x = withRules("b8q0ty", "r20q8c");
        int[][] told = {{8, 0, 0, 1, 0}, {0, 20, 8, 0, 1}};
        for (int rule = 0; rule < 2; rule++) {
            for (int what = 0; what <= 4; what++) {
                due("rule " + rule + ", what " + what, x.ruleTold(rule, what), told[rule][what]);
            }
        }
        for (int what : new int[] {-1, 5, Integer.MIN_VALUE, Integer.MAX_VALUE}) {
            refused(Boundary::someClub, "what " + what, y -> y.ruleTold(1, what), OUTSIDE);
        }
    }

    private static void toldOfNoRule() {
        sentence(6, "UNKNOWN; OUTSIDE.");
        for (int rule : new int[] {-1, 2, 6, Integer.MIN_VALUE, Integer.MAX_VALUE}) {
            refused(Boundary::someClub, "rule " + rule, x -> x.ruleTold(rule, 0), UNKNOWN);
            refused(Boundary::someClub, "rule " + rule + ", what 5", x -> x.ruleTold(rule, 5), UNKNOWN);
        }
        refused(Boundary::fullClub, "rule 6 of six", x -> x.ruleTold(6, 0), UNKNOWN);
        refused(BlackBalls::new, "rule 0 of none", x -> x.ruleTold(0, 0), UNKNOWN);
    }
}
