import java.util.ArrayList;
import java.util.List;

/** The boundary cases of a rig's text: Terms I and its FAULTS, which promises 4 and 5 rest on. */
public final class EdgeTextTest {
    private static final Edges EDGES = new Edges();
    private static final int NONE = FlyingBars.NONE;
    private static final String BAR = "bar a at 1 every 8 from 0 reach 5;";
    private static final String TRICK = "trick k ticks 2 arms 4 worth ";

    public static void main(String[] args) {
        blanks();
        sideBySide();
        numbersOfBars();
        numbersOfBoards();
        numbersOfTricks();
        digits();
        manyOfAKind();
        manyStatements();
        nameLengths();
        ownWords();
        nearlyOwnWords();
        unlikeNames();
        toldAhead();
        noRigGoesOn();
        fifthDigitSeventhLetter();
        endsTooSoon();
        numberThatCannotBe();
        openAtOnce();
        notUntilItsFactEnds();
        whateverStandsThere();
        firstAlongTheText();
        EDGES.finish();
    }

    /** The fault is due where the text has its mark ^ (it is taken out). */
    private static void faulty(int fault, String marked) {
        int place = marked.indexOf('^');
        String text = marked.substring(0, place) + marked.substring(place + 1);
        Watched x = new Watched();
        EDGES.due("rig of " + marked, x.rig(text), NONE);
        EDGES.due("fault(0) of " + marked, x.fault(0), fault);
        EDGES.due("fault(1) of " + marked, x.fault(1), place);
        EDGES.due("all stays behind " + marked, x.has(0) + x.has(1) + x.has(2) + x.has(3), 0);
    }

    private static Watched well(String text, int statements) {
        Watched x = new Watched();
        EDGES.due("rig of " + text, x.rig(text), statements);
        EDGES.due("fault(0) of " + text, x.fault(0), 0);
        EDGES.due("fault(1) of " + text, x.fault(1), NONE);
        return x;
    }

    private static void blanks() {
        EDGES.of("Terms I", "THE RIG is a text with blanks (10, 32) between where one likes");
        String[] tokens = {"bar", "a", "at", "1", "every", "8", "from", "0", "reach", "5", ";", "trick", "k", "ticks", "2",
            "arms", "4", "worth", "min", "(", "1", ",", "miss", ")", "*", "2", "when", "not", "[", "1", "<", "2", "]", ";"};
        String[] gaps = {" ", "\n", "  ", " \n ", "\n\n\n"};
        for (String gap : gaps) {
            well(gap + String.join(gap, tokens) + gap, 2);
        }
        well("bar a at 1 every 8 from 0 reach 5;trick k ticks 2 arms 4 worth min(1,miss)*2 when not[1<2];", 2);
        int[] others = {0, 1, 9, 11, 12, 13, 31, 33, 127, 128, 138, 160, 255};
        for (int other : others) {
            faulty(1, "^" + (char) other + "bar a");
            faulty(1, "bar ^" + (char) other + "a");
            faulty(1, "bar a^" + (char) other + "at 1");
            faulty(1, BAR + "^" + (char) other);
        }
        for (int blank : new int[] {10, 32}) {
            well((char) blank + BAR + (char) blank, 1);
        }
    }

    private static void sideBySide() {
        EDGES.of("Terms I", "(words and numbers side by side need one)");
        faulty(1, "bar a at^1 every 8 from 0 reach 5;");
        faulty(1, "bar a at 1^every 8 from 0 reach 5;");
        faulty(1, "bar a at 1 every^8 from 0 reach 5;");
        faulty(1, "bar a at 1 every 8^from 0 reach 5;");
        faulty(1, "bar a at 1 every 8 from^0 reach 5;");
        faulty(1, "bar a at 1 every 8 from 0^reach 5;");
        faulty(1, "bar a at 1 every 8 from 0 reach^5;");
        faulty(1, "bar a^1 at 1");
        faulty(1, "board p^7;");
        faulty(1, BAR + "catcher a^1;");
        faulty(1, "trick k ticks^2 arms");
        faulty(1, "trick k ticks 2^arms 4");
        faulty(1, TRICK + "miss^2 when all;");
        faulty(1, TRICK + "2^when all;");
        faulty(1, TRICK + "2^miss when all;");
        faulty(1, TRICK + "2 when 1 < 2^or all;");
        faulty(1, TRICK + "2 when 1 < 2^and all;");
        faulty(1, TRICK + "2 when not^1 < 2;");
        faulty(1, "^bara at 1");
        faulty(1, "bar a ^atl 1");
        faulty(1, "bar aat ^1");
        well("bar a at 1 every 8 from 0 reach 5;board p at 1;", 2);
        well(TRICK + "(2)when all;", 1);
        well(TRICK + "2 when[1<2]or[all]and not(1)<2;", 1);
    }

    /** A number's place in a statement: below the least it can't be, nor above the greatest. */
    private static void range(String ahead, String behind, int least, int greatest) {
        int[] values = {0, least - 1, least, least + 1, (least + greatest) / 2, greatest - 1, greatest, greatest + 1, 9999};
        for (int value : values) {
            if (value >= least && value <= greatest) {
                well(ahead + value + behind, 1);
            } else if (value >= 0) {
                faulty(2, ahead + "^" + value + behind);
                faulty(2, ahead + "^" + value);
            }
        }
        faulty(1, ahead + "^-1" + behind);
        faulty(1, ahead + "^+1" + behind);
    }

    private static void numbersOfBars() {
        EDGES.of("Terms I", "bar NAME at N every N from N reach N (place 0 .. 400, PERIOD 4 .. 40, PHASE 0 .. 39, REACH 0 .. 60; 8 BARS)");
        range("bar a at ", " every 8 from 0 reach 5;", 0, 400);
        range("bar a at 1 every ", " from 0 reach 5;", 4, 40);
        range("bar a at 1 every 8 from ", " reach 5;", 0, 39);
        range("bar a at 1 every 8 from 0 reach ", ";", 0, 60);
        Watched x = well("bar a at 400 every 40 from 39 reach 60;", 1);
        EDGES.row("a bar by the greatest of all", new int[] {x.where(0, 1), x.where(0, 0), x.where(0, 21), x.where(0, 41)},
                460, 454, 340, 460);
        x = well("bar a at 0 every 4 from 0 reach 60;", 1);
        EDGES.row("a bar by the least of all", new int[] {x.where(0, 0), x.where(0, 1), x.where(0, 2), x.where(0, 3), x.where(0, 4)},
                60, 0, -60, 0, 60);
        x = well("bar a at 0 every 4 from 0 reach 0;", 1);
        EDGES.row("without reach", new int[] {x.where(0, 0), x.where(0, 1), x.where(0, 2)}, 0, 0, 0);
    }

    private static void numbersOfBoards() {
        EDGES.of("Terms I", "board NAME at N (0 .. 400; 4 BOARDS)");
        range("board p at ", ";", 0, 400);
        Watched x = well("bar a at 0 every 4 from 0 reach 0;bar b at 400 every 4 from 0 reach 0;board p at 0;board q at 400;", 4);
        EDGES.due("by the least", x.take(0, 0, 0), true);
        EDGES.due("by the greatest", x.take(1, 0, 1), true);
        EDGES.due("not by the other", x.take(1, 0, 0), false);
    }

    private static void numbersOfTricks() {
        EDGES.of("Terms I", "trick NAME ticks N arms N worth SUM when TEST (TICKS 1 .. 20, ARMS 0 .. 40; 8 TRICKS)");
        range("trick k ticks ", " arms 4 worth 1 when all;", 1, 20);
        range("trick k ticks 2 arms ", " worth 1 when all;", 0, 40);
        String still = "bar a at 9 every 4 from 0 reach 0;bar b at 49 every 4 from 0 reach 0;bar c at 50 every 4 from 0 reach 0;";
        Watched x = well(still + "trick k ticks 20 arms 40 worth 1 when all;trick j ticks 1 arms 0 worth 1 when all;", 5);
        EDGES.row("arms of 40", new int[] {x.flight(0, 0, 0, 1, 0, false, 1), x.flight(0, 0, 0, 2, 0, false, 1)}, 1, 0);
        EDGES.row("arms of 0", new int[] {x.flight(1, 0, 1, 2, 0, false, 1), x.flight(1, 0, 1, 2, 0, false, 0)}, 0, 1);
    }

    private static void digits() {
        EDGES.of("Terms I", "PART: N (1 to 4 digits)");
        String still = "bar a at 9 every 4 from 0 reach 0;bar b at 9 every 4 from 0 reach 0;";
        String[] numbers = {"0", "7", "00", "07", "99", "007", "999", "0007", "1000"};
        int[] values = {0, 7, 0, 7, 99, 7, 999, 7, 1000};
        for (int i = 0; i < numbers.length; i++) {
            Watched x = well(still + TRICK + numbers[i] + " when all;", 3);
            EDGES.due("the worth of " + numbers[i], x.flight(0, 0, 0, 1, 0, false, 2), values[i]);
        }
        Watched x = well(still + TRICK + "9999-9000 when all;", 3);
        EDGES.due("9999 less 9000", x.flight(0, 0, 0, 1, 0, false, 2), 999);
        faulty(1, TRICK + "1000^0 when all;");
        faulty(1, TRICK + "0000^1 when all;");
        faulty(1, TRICK + "1 when 1000^0 > 1;");
        faulty(1, TRICK + "1 when 1 < 1000^00;");
        well("bar a at 0400 every 0004 from 0000 reach 0060;", 1);
        faulty(2, "bar a at ^0401 every");
        faulty(1, "bar a at 0040^0 every");
    }

    private static String bars(int count) {
        StringBuilder text = new StringBuilder();
        for (int i = 0; i < count; i++) {
            text.append("bar b").append((char) ('a' + i)).append(" at 9 every 4 from 0 reach 0;");
        }
        return text.toString();
    }

    private static String boards(int count) {
        StringBuilder text = new StringBuilder();
        for (int i = 0; i < count; i++) {
            text.append("board p").append((char) ('a' + i)).append(" at 9;");
        }
        return text.toString();
    }

    private static String tricks(int count) {
        StringBuilder text = new StringBuilder();
        for (int i = 0; i < count; i++) {
            text.append("trick t").append((char) ('a' + i)).append(" ticks 1 arms 0 worth 1 when all;");
        }
        return text.toString();
    }

    private static void manyOfAKind() {
        EDGES.of("Terms I", "5 a 9th BAR or TRICK, a 5th BOARD, a 31st STATEMENT (whatever stands there), at its first byte.");
        for (int count = 6; count <= 8; count++) {
            EDGES.due("bars", well(bars(count), count).has(0), count);
            EDGES.due("tricks", well(tricks(count), count).has(2), count);
            EDGES.due("boards", well(boards(count - 4), count - 4).has(1), count - 4);
        }
        faulty(5, bars(8) + "^bar bz at 9 every 4 from 0 reach 0;");
        faulty(5, bars(8) + " \n ^bar");
        faulty(5, bars(8) + "^bar ba at");
        faulty(5, bars(8) + "^bar9");
        faulty(1, bars(8) + "^bars");
        faulty(1, bars(8) + "^ba");
        faulty(5, tricks(8) + "^trick z ticks 1 arms 0 worth 1 when all;");
        faulty(5, tricks(8) + "  ^trick");
        faulty(1, tricks(8) + "^ticks");
        faulty(1, tricks(8) + "^tric");
        faulty(5, boards(4) + "^board z at 9;");
        faulty(5, boards(4) + "\n^board");
        faulty(1, boards(4) + "^boards");
        EDGES.due("all full", well(bars(8) + boards(4) + tricks(8), 20).has(2), 8);
        faulty(5, bars(8) + boards(4) + tricks(8) + "^bar");
        faulty(5, bars(8) + boards(4) + tricks(8) + "^board");
        faulty(5, bars(8) + boards(4) + tricks(8) + "^trick");
        well(bars(8) + boards(4) + tricks(8) + "catcher ba;catcher bh;", 22);
    }

    private static void manyStatements() {
        EDGES.of("Terms I", "30 STATEMENTS at most.");
        for (int count = 28; count <= 30; count++) {
            well(BAR + "catcher a;".repeat(count - 1), count);
            well(BAR + "catcher a;".repeat(count - 1) + " \n ", count);
        }
        faulty(5, BAR + "catcher a;".repeat(29) + "^catcher a;");
        faulty(1, BAR + "catcher a;".repeat(28) + "catcher a^");
        faulty(3, BAR + "catcher a;".repeat(28) + "catcher ^b;");
        well(BAR + "catcher a;".repeat(28) + boards(1), 30);
        faulty(5, BAR + "catcher a;".repeat(28) + boards(1) + "^board z at 9;");
    }

    private static void whateverStandsThere() {
        EDGES.of("Terms I", "a 31st STATEMENT (whatever stands there), at its first byte");
        String full = BAR + "catcher a;".repeat(29);
        String[] behind = {"catcher a;", "catcher b;", "bar", "bar a", "x", "5", "12345", ";", "(", "catcher", "abcdefgh", "!", "\t", "A", "" + (char) 255};
        for (String one : behind) {
            faulty(5, full + "^" + one);
            faulty(5, full + " \n^" + one);
        }
        well(full + " \n", 30);
        faulty(1, BAR + "catcher a;".repeat(28) + "^x");
        faulty(1, BAR + "catcher a;".repeat(28) + "^;");
    }

    private static void nameLengths() {
        EDGES.of("Terms I", "NAMES: 1 to 6 letters");
        String name = "abcdefghij";
        for (int length = 1; length <= 10; length++) {
            String own = name.substring(0, length);
            String cut = length > 6 ? own.substring(0, 6) + "^" + own.substring(6) : own;
            if (length <= 6) {
                well("bar " + own + " at 1 every 8 from 0 reach 5;catcher " + own + ";", 2);
                well("board " + own + " at 1;", 1);
                well("trick " + own + " ticks 1 arms 0 worth 1 when all;", 1);
            } else {
                faulty(1, "bar " + cut + " at 1 every 8 from 0 reach 5;");
                faulty(1, "board " + cut + " at 1;");
                faulty(1, "trick " + cut + " ticks 1 arms 0 worth 1 when all;");
                faulty(1, "bar abcdef at 1 every 8 from 0 reach 5;catcher " + cut + ";");
            }
        }
        for (char c = 'a'; c <= 'z'; c++) {
            well("board " + c + " at 1;", 1);
        }
        int[] beside = {'a' - 1, 'z' + 1, 'A', 'Z', '0', '9', '_', 'a' + 128, 'z' + 128};
        for (int c : beside) {
            faulty(1, "board ^" + (char) c + " at 1;");
            faulty(1, "board b^" + (char) c + " at 1;");
        }
        faulty(1, "board ^;");
        faulty(1, "board ^at 1;");
    }

    private static void ownWords() {
        EDGES.of("Terms I", "an OWN WORD where a NAME must be");
        EDGES.due("own words", TextModel.OWN_WORDS.size(), 26);
        for (String word : TextModel.OWN_WORDS) {
            faulty(1, "bar ^" + word + " at 1 every 8 from 0 reach 5;");
            faulty(1, "board ^" + word + " at 1;");
            faulty(1, "trick ^" + word + " ticks 1 arms 0 worth 1 when all;");
            faulty(1, BAR + "catcher ^" + word + ";");
            faulty(1, "bar ^" + word);
        }
    }

    /** An own word with a letter more, less or another one is a name like others. */
    private static void nearlyOwnWords() {
        EDGES.of("Terms I", "OWN WORDS: bar, at, every, from, reach, board, catcher, trick, ticks, arms, worth, when, or, and, not, all, "
                + "miss, swing, gap, tick, thrown, caught, done, again, min, max.");
        List<String> names = new ArrayList<>();
        for (String word : TextModel.OWN_WORDS) {
            names.add(word + "x");
            names.add("x" + word);
            names.add(word.substring(0, word.length() - 1));
            names.add(word.substring(1));
            names.add(word.substring(0, word.length() - 1) + "q");
            names.add("q" + word.substring(1));
            names.add(word + word);
        }
        for (String word : new String[] {"place", "period", "phase", "name", "sum", "test", "fact", "rig", "act", "speed", "n", "none"}) {
            names.add(word);
        }
        for (String name : names) {
            if (name.length() > 6) {
                faulty(1, "board " + name.substring(0, 6) + "^" + name.substring(6) + " at 1;");
            } else if (TextModel.OWN_WORDS.contains(name)) {
                faulty(1, "board ^" + name + " at 1;");
            } else {
                well("board " + name + " at 1;", 1);
            }
        }
    }

    private static String told(int kind, String name) {
        String[] texts = {"bar " + name + " at 1 every 8 from 0 reach 5;", "board " + name + " at 1;",
            "trick " + name + " ticks 1 arms 0 worth 1 when all;"};
        return texts[kind];
    }

    private static void unlikeNames() {
        EDGES.of("Terms I", "3 a NAME to be given that is there already, one that is none of what is asked, at it");
        String[] words = {"bar ", "board ", "trick "};
        for (int first = 0; first < 3; first++) {
            for (int second = 0; second < 3; second++) {
                faulty(3, told(first, "abcdef") + words[second] + "^abcdef");
                faulty(3, told(first, "z") + told(second, "y") + words[second] + "^z at 1");
                faulty(3, told(first, "z") + told(second, "y") + words[first] + " \n^y");
                well(told(first, "abcdef") + told(second, "abcdee"), 2);
                well(told(first, "abcdef") + told(second, "abcde"), 2);
                well(told(first, "bbcdef") + told(second, "abcdef"), 2);
                well(told(first, "a") + told(second, "aa"), 2);
            }
            well(told(first, "k") + BAR + "catcher a;", 3);
        }
        faulty(3, BAR + "catcher ^aa;");
        faulty(3, BAR + "catcher ^b;");
        faulty(3, "bar aa at 1 every 8 from 0 reach 5;catcher ^a;");
        faulty(3, "board p at 1;catcher ^p;");
        faulty(3, "trick p ticks 1 arms 0 worth 1 when all;catcher ^p");
        well(bars(8) + "catcher ba;catcher bh;", 10);
        faulty(3, bars(8) + "catcher ^bi;");
    }

    private static void toldAhead() {
        EDGES.of("Terms I", "told ahead of where they are asked");
        faulty(3, "catcher ^a;" + BAR);
        well(BAR + "catcher a;", 2);
        Watched x = well(BAR + "catcher a;", 2);
        EDGES.due("a name told by the rig ahead of this one is none", x.rig("catcher a;"), NONE);
        EDGES.due("fault(0)", x.fault(0) * 10 + x.fault(1), 38);
        EDGES.due("a name told by the rig ahead of this one is free", x.rig("board a at 1;"), 1);
    }

    private static void noRigGoesOn() {
        EDGES.of("Terms I", "1 the first byte with which no RIG goes on (words and numbers whole, at their first byte");
        faulty(1, "^x");
        faulty(1, "  ^12345");
        faulty(1, "^;");
        faulty(1, BAR + "^;");
        faulty(1, "^boar");
        faulty(1, "^ba");
        faulty(1, "bar a ^a");
        faulty(1, "bar a ^att");
        faulty(1, "bar ^12345");
        faulty(1, "bar a ^12345");
        faulty(1, "bar a at ^abcdefgh");
        faulty(1, "bar a at ^at");
        faulty(1, "bar a at 1 ^abcdefgh");
        faulty(1, "bar a at 1 ^12345");
        faulty(1, BAR + "catcher a ^abcdefg");
        faulty(1, TRICK + "^abcdefgh when");
        faulty(1, TRICK + "^k when all;");
        faulty(1, TRICK + "1 ^12345");
        faulty(1, TRICK + "1 when all ^abcdefgh");
        faulty(1, TRICK + "1 when ^when");
        faulty(1, TRICK + "^] when");
        faulty(1, TRICK + "1 when ^] all");
        faulty(1, TRICK + "1 when 1 ^] all");
        faulty(1, TRICK + "1 when 1 < 2 ^, all");
        faulty(1, TRICK + "1 when 1 ^and 2 < 3;");
        faulty(1, TRICK + "1 when 1 ^;");
        faulty(1, TRICK + "min^[1,2] when all;");
        faulty(1, TRICK + "min ^when all;");
        faulty(1, TRICK + "min ^+ 1 when all;");
        faulty(1, TRICK + "2 * max ^* 2 when all;");
        faulty(1, TRICK + "(max^) when all;");
        faulty(1, TRICK + "1 when min ^< 2;");
        faulty(1, TRICK + "1 when 1 < max^;");
        faulty(1, TRICK + "min(1^;2) when all;");
        faulty(1, TRICK + "max(1,2^] when all;");
        faulty(1, TRICK + "(1^] when all;");
        faulty(1, TRICK + "1 when [all^);");
        faulty(1, TRICK + "1 when (^all);");
        faulty(1, TRICK + "1 when (^[all]);");
        faulty(1, TRICK + "1 when 1 ^! 2;");
        faulty(1, TRICK + "1 when 1 <^> 2;");
    }

    private static void fifthDigitSeventhLetter() {
        EDGES.of("Terms I", "where a number, a NAME is asked, a 5th digit, a 7th letter of what is no OWN WORD at itself");
        String[] asks = {"bar a at ", "bar a at 1 every ", "bar a at 1 every 8 from ", "bar a at 1 every 8 from 0 reach ",
            "board a at ", "trick a ticks ", "trick a ticks 1 arms ", TRICK, TRICK + "(", TRICK + "1 when ", TRICK + "1 when 1 < "};
        for (String ask : asks) {
            faulty(1, ask + "1234^5");
            faulty(1, ask + "0001^2345678");
            faulty(1, ask + "0000^0a");
        }
        String[] names = {"bar ", "board ", "trick ", BAR + "catcher "};
        for (String ask : names) {
            faulty(1, ask + "abcdef^g");
            faulty(1, ask + "abcdef^ghijklm");
            faulty(1, ask + "catche^x");
            faulty(1, ask + "catche^rs");
            faulty(1, ask + "barbar^bar");
            faulty(1, ask + "^catcher");
            faulty(1, ask + "^catcher7");
            faulty(1, ask + "abcdef^g7");
        }
    }

    /** Every text that is cut off: at its length, or at the first byte of the word that was cut. */
    private static void endsTooSoon() {
        EDGES.of("Terms I", "at the text's length, if it ends too soon");
        faulty(1, "bar^");
        faulty(1, "bar ^");
        faulty(1, "bar a^");
        faulty(1, "bar a \n ^");
        faulty(1, "bar a at^");
        faulty(1, "bar a at 1^");
        faulty(1, "bar a at 1 every 8 from 0 reach 5^");
        faulty(1, "bar a at 1 every 8 from 0 reach 5 ^");
        faulty(1, "catcher ^");
        faulty(1, BAR + "catcher a^");
        faulty(1, TRICK + "^");
        faulty(1, TRICK + "(^");
        faulty(1, TRICK + "1 -^");
        faulty(1, TRICK + "min^");
        faulty(1, TRICK + "min(1,^");
        faulty(1, TRICK + "1 when^");
        faulty(1, TRICK + "1 when not^");
        faulty(1, TRICK + "1 when [^");
        faulty(1, TRICK + "1 when [all^");
        faulty(1, TRICK + "1 when 1^");
        faulty(1, TRICK + "1 when 1 <^");
        faulty(1, TRICK + "1 when all^");
        faulty(1, TRICK + "1 when all or^");
        faulty(1, " ".repeat(897) + "bar^");
        well("", 0);
        well(BAR, 1);
        String whole = "board p at 17;bar ab at 301 every 12 from 5 reach 20 ;catcher ab; trick hop ticks 12 arms 10 "
                + "worth min(7, (miss)) * 2 - 500 / gap when not [tick < 90 or all] and swing > 2;";
        for (int length = 0; length <= whole.length(); length++) {
            String text = whole.substring(0, length);
            TextModel model = new TextModel(text);
            Watched x = new Watched();
            EDGES.due("rig of " + text, x.rig(text), model.fault == 0 ? model.statements : NONE);
            EDGES.due("fault(0) of " + text, x.fault(0), model.fault);
            EDGES.due("fault(1) of " + text, x.fault(1), model.place);
        }
    }

    private static void numberThatCannotBe() {
        EDGES.of("Terms I", "2 a number (of 1 to 4 digits) that can't be, at it");
        faulty(2, "bar a at ^401;");
        faulty(2, "bar a at ^9999");
        faulty(1, "bar a at 9999^9");
        faulty(2, "bar a at 1 every ^3");
        faulty(2, "bar a at 1 every ^0000");
        faulty(2, "bar a at 1 every ^0");
        faulty(2, "bar a at \n ^401every");
        faulty(2, "trick k ticks ^0");
        faulty(2, "trick k ticks ^0000 arms");
        faulty(1, "trick k ticks 0000^0 arms");
        well(TRICK + "9999 when 0 < 9999;", 1);
    }

    private static void openAtOnce() {
        EDGES.of("Terms I", "4 the 7th ( [ not that is open at once");
        for (int count = 5; count <= 6; count++) {
            well(TRICK + "(".repeat(count) + "1" + ")".repeat(count) + " when all;", 1);
            well(TRICK + "1 when " + "[".repeat(count) + "all" + "]".repeat(count) + ";", 1);
            well(TRICK + "1 when " + "not ".repeat(count) + "all;", 1);
            well(TRICK + "min(1,".repeat(count) + "1" + ")".repeat(count) + " when all;", 1);
            well(TRICK + "1 when 1 < " + "(".repeat(count) + "1" + ")".repeat(count) + ";", 1);
        }
        faulty(4, TRICK + "((((((^(1))))))) when all;");
        faulty(4, TRICK + "((((((^((1");
        faulty(4, TRICK + "1 when [[[[[[^[all]]]]]]];");
        faulty(4, TRICK + "1 when not not not not not not ^not all;");
        faulty(4, TRICK + "1 when not not not not not not ^[all];");
        faulty(4, TRICK + "1 when not not not not not not ^(1) < 2;");
        faulty(4, TRICK + "1 when not not not not not not 1 < ^(2);");
        faulty(4, TRICK + "1 when [[[[[[^not all]]]]]];");
        faulty(4, TRICK + "1 when [[[[[[1 < max ^(1,2)]]]]]];");
        faulty(4, TRICK + "1 when [not [not [not ^(1) < 2]]];");
        faulty(4, TRICK + "min(1,min(1,min(1,min(1,min(1,min(1,min^(");
        faulty(4, TRICK + "max((max(max(max(max(max ^(1");
        well(TRICK + "1 when [not [not [not 1 < 2]]];", 1);
        faulty(1, TRICK + "((((((^) when all;");
        faulty(1, TRICK + "((((((^[1");
        faulty(4, TRICK + "1 when not not not not not not ^not");
        faulty(1, TRICK + "1 when not not not not not not ^nots");
        well(TRICK + "((((((1)))))) when not not not not not not all;trick j ticks 1 arms 1 worth ((((((1)))))) when [[[[[[all]]]]]];", 2);
        well(TRICK + "(1)+(2)*(3)-(4)/(5)+(6)+(7)+(8)+((((((9)))))) when all;", 1);
        well(TRICK + "min((1),(2))+min(((((1)))),max((((1))),(2))) when all;", 1);
        faulty(4, TRICK + "min((1),(((((^(1");
        faulty(4, TRICK + "(1)+((((((^(1");
    }

    private static void notUntilItsFactEnds() {
        EDGES.of("Terms I", "(not until its FACT ends)");
        well(TRICK + "1 when not not not not not not all and not all or not not not not not not all;", 1);
        well(TRICK + "1 when not not not not not not 1 < 2 and not not not not not not 2 > 1 or [[[[[[all]]]]]];", 1);
        well(TRICK + "1 when [not all and not all and not all and not all and not all and not all and not all and [[[[[all]]]]]];", 1);
        faulty(4, TRICK + "1 when [not all and not all and not all and not all and not all and not all and not all and [[[[[^[");
        faulty(4, TRICK + "1 when not not not not not not 1 < 2 + ^(2);");
        well(TRICK + "1 when not not not not not (1) < (2) and ((((((1)))))) < 2;", 1);
        faulty(4, TRICK + "1 when not not not not not (1) < (^(");
        well(TRICK + "1 when not not not not not [all] and not not not not not [all];", 1);
        faulty(4, TRICK + "1 when not not not not not [^not");
        faulty(4, TRICK + "1 when not not not not not [all and ^not");
        well(TRICK + "1 when not [not all or not all or not [not all or not all and not [all]]];", 1);
    }

    private static void firstAlongTheText() {
        EDGES.of("Terms I", "FAULTS, the first along the text");
        faulty(2, "bar a at ^401 every 3 from 99 x");
        faulty(1, "bar a at 400 ^evry 3");
        faulty(3, BAR + "bar ^a at 401");
        faulty(2, BAR + "bar b at ^401 every 8 from 0 reach 5;bar a");
        faulty(5, bars(8) + "^bar ba at 401");
        faulty(2, "trick k ticks ^0 arms 41 worth (((((((1");
        faulty(4, TRICK + "((((((^(x");
        faulty(1, TRICK + "((((((^x(");
        faulty(1, TRICK + "(((((1234^5");
        faulty(5, boards(4) + "^board pa at 401");
        faulty(3, boards(3) + "board ^pa at 401");
    }
}
