/** The boundary cases of promises 1 to 7: a new object, the tape, rig(), fault(), has(), letter(). */
public final class EdgeTapeTest {
    private static final Edges EDGES = new Edges();
    private static final int NONE = FlyingBars.NONE;
    private static final int BLANKS = 0x20202020;
    private static final String BAR = "bar a at 1 every 8 from 0 reach 5;";
    private static final String STILL = "bar a at 9 every 4 from 0 reach 0;bar b at 9 every 4 from 0 reach 0;board p at 9;"
            + "trick k ticks 1 arms 1 worth 3 when all;";

    public static void main(String[] args) {
        newObject();
        twentyBytes();
        howManyThereAre();
        moreThan900();
        firstBytesAlone();
        notSoMany();
        tapeGoes();
        howManyStatements();
        allStays();
        noPlanEmptyBill();
        rigBehindRig();
        faultOfLatest();
        otherFaults();
        hasCounts();
        hasOthers();
        letters();
        lettersNoneSuch();
        lastCall();
        EDGES.finish();
    }

    private static int feedBlanks(Watched x) {
        return x.feed(BLANKS, BLANKS, BLANKS, BLANKS, BLANKS);
    }

    private static void newObject() {
        EDGES.of("Promise 1", "No BARS, BOARDS, TRICKS; no PLAN, an empty BILL.");
        Watched other = Watched.made(STILL);
        EDGES.due("another object is there", other.best(0, 0, 1, 80) + other.book(0), 4);
        Watched x = new Watched();
        for (int what = 0; what <= 5; what++) {
            EDGES.due("has(" + what + ")", x.has(what), 0);
            EDGES.due("plan(" + what + ")", x.plan(what), NONE);
        }
        for (int kind = 0; kind <= 2; kind++) {
            EDGES.due("letter(" + kind + ", 0, 0)", x.letter(kind, 0, 0), NONE);
        }
        EDGES.due("step(0, 0)", x.step(0, 0), NONE);
        EDGES.due("unbook()", x.unbook(), NONE);
        EDGES.due("bill(0)", x.bill(0), 0);
        EDGES.due("octet(0)", x.octet(0), NONE);
        EDGES.due("image()", x.image(), 2);
        EDGES.due("octets", x.octets(), "0 45 ");
        EDGES.due("the tape is empty", x.end(1), false);
        EDGES.due("the tape is empty", feedBlanks(x), 20);
    }

    private static void twentyBytes() {
        EDGES.of("Promise 2", "Twenty bytes come behind those on the tape, of each number the highest first");
        Watched x = new Watched();
        x.feed(0x626F6172, 0x64206263, 0x64656620, 0x61742033, 0x39393B20);
        EDGES.due("\"board bcdef at 399; \"", x.rig(), 1);
        EDGES.row("its letters", new int[] {x.letter(1, 0, 0), x.letter(1, 0, 1), x.letter(1, 0, 4), x.letter(1, 0, 5)},
                2, 3, 6, 0);
        x.feed(0x20202020, 0x20202020, 0x20202020, 0x20202020, 0x20202062);
        x.feed(0x6F617264, 0x207A2061, 0x74203339, 0x383B2020, 0x20202020);
        EDGES.due("a word that goes on in the next twenty", x.rig(), 1);
        EDGES.due("its letter", x.letter(1, 0, 0), 26);
        for (int at = 0; at < 20; at++) {
            int[] words = {BLANKS, BLANKS, BLANKS, BLANKS, BLANKS};
            int shift = 24 - 8 * (at % 4);
            words[at / 4] = words[at / 4] & ~(255 << shift) | 0xE2 << shift;
            x.feed(words[0], words[1], words[2], words[3], words[4]);
            EDGES.due("byte 226 at " + at, x.rig() * 100 + x.fault(1), -100 + at);
        }
        x = Watched.made(STILL);
        x.lay(0, Checks.sealed(1, 0, 200, 0, 0, 0, 1, 0, 0, 1, 3, 232, 80, 0));
        EDGES.due("an image with 200 and 232", x.on(), true);
        EDGES.due("the shift of 200", x.at(0, 199) * 100 + x.at(0, 200), -100);
        EDGES.due("the worth of 1000", x.bill(0), 1000);
    }

    private static void howManyThereAre() {
        EDGES.of("Promise 2", "how many there are");
        Watched x = new Watched();
        for (int i = 1; i <= 45; i++) {
            EDGES.due("feed no. " + i, feedBlanks(x), 20 * i);
        }
        for (int n = 0; n <= 21; n++) {
            EDGES.due("end(" + (21 - n) + ")", x.end(21 - n), true);
            EDGES.due("feed behind " + (21 - n), feedBlanks(x), 41 - n);
        }
    }

    private static Watched withTape(int length) {
        Watched x = Watched.made(STILL);
        x.lay(" ".repeat(length - 9) + "board t a");
        return x;
    }

    private static void moreThan900() {
        EDGES.of("Promise 2", "NONE, doing nothing, if there would be more than 900.");
        for (int length = 878; length <= 880; length++) {
            Watched x = withTape(length);
            EDGES.due("feed behind " + length, x.feed(0x7420373B, BLANKS, BLANKS, BLANKS, BLANKS), length + 20);
            EDGES.due("it came behind", x.rig(), 1);
        }
        int[] full = {881, 882, 890, 899, 900};
        for (int length : full) {
            EDGES.stays("feed behind " + length, () -> withTape(length), NONE,
                    x -> x.feed(0x7420373B, BLANKS, BLANKS, BLANKS, BLANKS));
            Watched x = withTape(length);
            x.feed(0x7420373B, BLANKS, BLANKS, BLANKS, BLANKS);
            EDGES.due("nothing came behind " + length, x.rig(), NONE);
            // The text ends with the word "a", which is not "at".
            EDGES.due("the fault", x.fault(0) * 1000 + x.fault(1), 1000 + length - 1);
        }
    }

    private static void firstBytesAlone() {
        EDGES.of("Promise 3", "The tape has its first n bytes alone: true");
        String text = "board p at 399;board";
        int[] faultAt = {NONE, 0, 0, 0, 0, 5, 6, 7, 8, 8, 10, 11, 12, 13, 14, NONE, 15, 15, 15, 15, 20};
        for (int n = 0; n <= 20; n++) {
            Watched x = new Watched();
            x.lay(text);
            EDGES.due("end(" + n + ") of 20", x.end(n), true);
            EDGES.due("end(" + n + ") once more", x.end(n), true);
            EDGES.due("end(" + (n + 1) + ") of " + n, x.end(n + 1), false);
            x.rig();
            EDGES.due("the first " + n + " bytes", x.fault(1), faultAt[n]);
        }
        Watched x = new Watched();
        x.lay(text);
        EDGES.due("end(6)", x.end(6), true);
        EDGES.due("feed", feedBlanks(x), 26);
        EDGES.due("rig", x.rig(), NONE);
        EDGES.due("what was behind is not there", x.fault(1), 26);
        x = new Watched();
        x.lay(" ".repeat(900));
        EDGES.due("end(900) of 900", x.end(900), true);
        EDGES.due("end(899) of 900", x.end(899), true);
        EDGES.due("end(900) of 899", x.end(900), false);
    }

    private static void notSoMany() {
        EDGES.of("Promise 3", "false, doing nothing, if it has not so many, or n is below 0.");
        int[] wrong = {-1, -2, Integer.MIN_VALUE, 101, 102, 900, 901, Integer.MAX_VALUE};
        for (int n : wrong) {
            EDGES.stays("end(" + n + ") of 100", () -> withTape(100), 0, x -> x.end(n) ? 1 : 0);
        }
        Watched x = new Watched();
        EDGES.due("end(0) of none", x.end(0), true);
        EDGES.due("end(1) of none", x.end(1), false);
        EDGES.due("end(-1) of none", x.end(-1), false);
    }

    private static void tapeGoes() {
        EDGES.of("Promise 4", "The tape (it goes) is THE RIG");
        Watched x = new Watched();
        EDGES.due("rig of 34 bytes", x.rig(BAR), 1);
        EDGES.due("it went", x.end(1), false);
        EDGES.due("rig of no byte", x.rig(), 0);
        EDGES.due("no bars now", x.has(0), 0);
        EDGES.due("rig with a fault", x.rig("bar a at 401"), NONE);
        EDGES.due("it went", x.end(1), false);
        EDGES.due("feed is the first", feedBlanks(x), 20);
        EDGES.due("rig of blanks", x.rig(), 0);
    }

    private static void howManyStatements() {
        EDGES.of("Promise 4", "how many STATEMENTS");
        int[] counts = {0, 1, 2, 28, 29, 30};
        for (int count : counts) {
            Watched x = new Watched();
            String text = count == 0 ? " " : BAR + "catcher a;".repeat(count - 1);
            EDGES.due(count + " statements", x.rig(text), count);
            EDGES.due("fault", x.fault(0) * 10 + x.fault(1), NONE);
        }
        EDGES.due("31 statements", new Watched().rig(BAR + "catcher a;".repeat(30)), NONE);
    }

    private static Watched busy() {
        Watched x = Watched.made(STILL);
        x.take(0, 2, 1);
        x.fly(4, 0, 0);
        x.down(7, 0);
        x.book(3);
        x.image();
        x.book(9);
        x.take(0, 5, 0);
        x.fly(6, 0, 1);
        return x;
    }

    private static Watched busyBehindFault() {
        Watched x = busy();
        x.rig("bar c at 401 every 8 from 0 reach 5;");
        return x;
    }

    private static void allStays() {
        EDGES.of("Promise 4", "NONE with a FAULT (all stays).");
        String[] texts = {"bar c at 500;", "board c at 5;bar d at 404;", "bar c at 1 every 8 from 0 reach 5;catcher c;x  ",
            "trick j ticks 3 arms 0 worth 5 when all;   404 "};
        int[] places = {9, 22, 44, 43};
        int[] faults = {2, 2, 1, 1};
        for (int i = 0; i < texts.length; i++) {
            Watched x = busy();
            EDGES.due("rig of " + texts[i], x.rig(texts[i]), NONE);
            EDGES.due("its fault", x.fault(0) * 1000 + x.fault(1), faults[i] * 1000 + places[i]);
            // Then the fault is the same one in both, so that all else can be laid side by side.
            EDGES.due("rig", x.rig("bar c at 401 every 8 from 0 reach 5;"), NONE);
            EDGES.due("what is there behind " + texts[i], x.look(), busyBehindFault().look());
        }
        Watched x = busyBehindFault();
        EDGES.row("all is there", new int[] {x.has(0), x.has(1), x.has(2), x.has(3), x.has(4), x.has(5), x.plan(0), x.bill(0)},
                2, 1, 1, 0, 2, 1, 5, 6);
        EDGES.due("the plan goes on", x.fly(7, 0, 0) && x.down(8, 0), true);
        EDGES.due("onto the bill", x.book(400), 3);
    }

    private static void noPlanEmptyBill() {
        EDGES.of("Promise 4", "Without one there is no PLAN, THE BILL is empty.");
        String[] texts = {"", "  ", STILL, BAR};
        for (String text : texts) {
            Watched x = busy();
            EDGES.due("rig", x.rig(text) >= 0, true);
            EDGES.row("plan", new int[] {x.plan(0), x.plan(1), x.plan(2), x.plan(3), x.plan(4), x.plan(5), x.has(5)},
                    NONE, NONE, NONE, NONE, NONE, NONE, 0);
            EDGES.due("step", x.step(0, 0), NONE);
            EDGES.row("bill", new int[] {x.has(4), x.bill(0), x.bill(1), x.bill(2), x.at(0, 5)}, 0, 0, 0, 0, NONE);
            EDGES.due("fly", x.fly(7, 0, 0), false);
            EDGES.due("down", x.down(7, 0), false);
            EDGES.due("book", x.book(0), NONE);
            EDGES.due("unbook", x.unbook(), NONE);
            EDGES.due("the latest image is there all the same", x.octet(0), 1);
            EDGES.due("image of an empty bill", x.image(), 2);
        }
        Watched x = busy();
        x.rig(BAR);
        EDGES.row("the new rig alone", new int[] {x.has(0), x.has(1), x.has(2), x.letter(0, 0, 0), x.letter(0, 1, 0)},
                1, 0, 0, 1, NONE);
    }

    /** A small rig behind full ones, and behind a full one with a fault at its end, is as it is in a new object. */
    private static void rigBehindRig() {
        EDGES.of("Promise 4", "The tape (it goes) is THE RIG");
        StringBuilder text = new StringBuilder();
        for (int i = 0; i < 8; i++) {
            char name = (char) ('a' + i);
            text.append("bar ").append(name).append(name).append(" at 9 every ").append(11 + i).append(" from 3 reach 1;catcher ").append(name).append(name).append(";");
            text.append(i < 4 ? "board p" + name + " at 9;" : "");
            text.append("trick t").append(name).append(" ticks 1 arms 40 worth 9 when ").append(i == 0 ? "again=0;" : "all;");
        }
        String[] small = {"", "board q at 9;", STILL, Scenes.RIG, "bar a at 9 every 4 from 0 reach 2;board p at 9;trick k ticks 1 arms 1 worth 3 when all;"};
        for (String one : small) {
            Watched fresh = Watched.made(one);
            Watched x = Watched.made(text.toString());
            EDGES.due("best of the full one", x.best(0, 0, 2, 80), 18);
            EDGES.due("rig", x.rig(text.toString()), 28);
            EDGES.due("with a fault", x.rig(text + "!"), NONE);
            EDGES.due("rig", x.rig(one), fresh.rig(one));
            EDGES.row("answers", answers(x), answers(fresh));
            EDGES.due("all else", x.look(), fresh.look());
        }
    }

    private static int[] answers(Watched x) {
        return new int[] {x.has(0), x.has(1), x.has(2), x.has(3), x.round(), x.idle(0), x.idle(1), x.reached(0, 8, 80), x.ways(0, 0, 3, 80), x.soonest(0, 0, 1, 8),
            x.barred(0, 0, 3, 80, false, 0), x.barred(0, 0, 3, 80, true, 0), x.best(0, 0, 3, 80), x.has(5), x.plan(3), x.fill(0, 0, 3, 80), x.bill(1),
            x.flight(0, 1, 0, 1, 0, false, 2), x.window(0, 0, 1, -1), x.nearest(0, 0, 1, false), x.where(0, 7), x.where(1, 7), x.where(2, 7)};
    }

    private static void faultOfLatest() {
        EDGES.of("Promise 5", "Of the latest rig(): its FAULT (0; 0 without, and ahead of any), its place (1; NONE without).");
        Watched x = new Watched();
        EDGES.row("ahead of any", new int[] {x.fault(0), x.fault(1)}, 0, NONE);
        x.rig("bar");
        EDGES.row("a fault at the end", new int[] {x.fault(0), x.fault(1)}, 1, 3);
        x.rig("x");
        EDGES.row("the first byte", new int[] {x.fault(0), x.fault(1)}, 1, 0);
        x.rig("bar a at 999");
        EDGES.row("fault 2", new int[] {x.fault(0), x.fault(1)}, 2, 9);
        x.on(new byte[] {7});
        x.best(0, 0, 0, 0);
        feedBlanks(x);
        x.end(0);
        EDGES.row("other calls leave it", new int[] {x.fault(0), x.fault(1)}, 2, 9);
        x.rig("catcher a;");
        EDGES.row("fault 3", new int[] {x.fault(0), x.fault(1)}, 3, 8);
        x.rig("trick k ticks 1 arms 0 worth (((((((");
        EDGES.row("fault 4", new int[] {x.fault(0), x.fault(1)}, 4, 35);
        x.rig("board a at 1;board b at 1;board c at 1;board d at 1;board");
        EDGES.row("fault 5", new int[] {x.fault(0), x.fault(1)}, 5, 52);
        x.rig(BAR);
        EDGES.row("without", new int[] {x.fault(0), x.fault(1)}, 0, NONE);
        x.rig(" ".repeat(899) + "x");
        EDGES.row("the last byte of 900", new int[] {x.fault(0), x.fault(1)}, 1, 899);
        x.rig(" ".repeat(897) + "bar");
        EDGES.row("behind the last byte of 900", new int[] {x.fault(0), x.fault(1)}, 1, 900);
        x.rig();
        EDGES.row("without, of no byte", new int[] {x.fault(0), x.fault(1)}, 0, NONE);
    }

    private static void otherFaults() {
        EDGES.of("Promise 5", "NONE for another what.");
        int[] others = {-1, 2, 3, Integer.MIN_VALUE, Integer.MAX_VALUE};
        for (int what : others) {
            Watched x = new Watched();
            EDGES.due("fault(" + what + ") ahead of any", x.fault(what), NONE);
            x.rig("x");
            EDGES.due("fault(" + what + ") with one", x.fault(what), NONE);
        }
    }

    private static void hasCounts() {
        EDGES.of("Promise 6", "How many there are: 0 BARS, 1 BOARDS, 2 TRICKS, 3 CATCHERS, 4 ACTS of THE BILL, "
                + "5 FLIGHTS of THE PLAN (0 without one).");
        StringBuilder text = new StringBuilder();
        for (int i = 0; i <= 8; i++) {
            Watched x = Watched.made(text.toString());
            int boards = Math.min(i, 4);
            EDGES.row("with " + i, new int[] {x.has(0), x.has(1), x.has(2), x.has(3), x.has(4), x.has(5)},
                    i, boards, i, (i + 1) / 2, 0, 0);
            char name = (char) ('a' + i);
            text.append("bar b").append(name).append(" at 9 every 4 from 0 reach 0;");
            text.append(i < 4 ? "board p" + name + " at 9;" : "");
            text.append("trick t").append(name).append(" ticks 1 arms 0 worth 1 when all;");
            text.append(i % 2 == 0 ? "catcher b" + name + ";" : "");
        }
        Watched x = Watched.made(STILL);
        EDGES.due("flights without a plan", x.has(5), 0);
        x.take(0, 0, 0);
        for (int i = 0; i <= 8; i++) {
            EDGES.due("flights", x.has(5), i);
            x.fly(i, 0, 1 - i % 2);
        }
        EDGES.due("no 9th", x.has(5), 8);
        x.down(80, 0);
        EDGES.due("flights when it has gone down", x.has(5), 8);
        for (int i = 0; i <= 6; i++) {
            EDGES.due("acts", x.has(4), i);
            x.book(i);
        }
        EDGES.due("no 7th", x.has(4), 6);
        x.unbook();
        EDGES.due("one less", x.has(4), 5);
        x.take(0, 0, 0);
        EDGES.due("flights of a new plan", x.has(5), 0);
    }

    private static void hasOthers() {
        EDGES.of("Promise 6", "NONE for others.");
        int[] others = {-1, 6, 7, Integer.MIN_VALUE, Integer.MAX_VALUE};
        for (int what : others) {
            EDGES.due("has(" + what + ") of a new object", new Watched().has(what), NONE);
            EDGES.due("has(" + what + ")", busy().has(what), NONE);
        }
    }

    private static void letters() {
        EDGES.of("Promise 7", "Letter k (0 .. 5) of the NAME of a BAR (kind 0), BOARD (1), TRICK (2): 1 .. 26; 0 behind it");
        String name = "azbycx";
        int[] letters = {1, 26, 2, 25, 3, 24};
        for (int length = 1; length <= 6; length++) {
            String own = name.substring(0, length);
            String[] texts = {"bar " + own + " at 1 every 8 from 0 reach 5;", "board " + own + " at 1;",
                "trick " + own + " ticks 1 arms 0 worth 1 when all;"};
            for (int kind = 0; kind < 3; kind++) {
                Watched x = Watched.made(texts[kind]);
                for (int k = 0; k < 6; k++) {
                    EDGES.due("letter(" + kind + ", 0, " + k + ") of " + own, x.letter(kind, 0, k), k < length ? letters[k] : 0);
                }
            }
        }
        for (char c = 'a'; c <= 'z'; c++) {
            Watched x = Watched.made("board qqqqq" + c + " at 1;board " + c + " at 1;");
            EDGES.due("first letter " + c, x.letter(1, 1, 0), c - 'a' + 1);
            EDGES.due("last letter " + c, x.letter(1, 0, 5), c - 'a' + 1);
        }
    }

    private static void lettersNoneSuch() {
        EDGES.of("Promise 7", "NONE when there is none such.");
        StringBuilder text = new StringBuilder();
        for (int i = 0; i < 8; i++) {
            text.append("bar b").append((char) ('a' + i)).append(" at 9 every 4 from 0 reach 0;");
            text.append(i < 4 ? "board p" + (char) ('a' + i) + " at 9;" : "");
            text.append("trick t").append((char) ('a' + i)).append(" ticks 1 arms 0 worth 1 when all;");
        }
        Watched x = Watched.made(text.toString());
        int[] counts = {8, 4, 8};
        for (int kind = 0; kind < 3; kind++) {
            int last = counts[kind] - 1;
            EDGES.due("the last one", x.letter(kind, last, 1), last + 1);
            EDGES.due("one behind", x.letter(kind, last + 1, 0), NONE);
            EDGES.due("one ahead", x.letter(kind, -1, 0), NONE);
            EDGES.due("the first one", x.letter(kind, 0, 1), 1);
            EDGES.due("letter -1", x.letter(kind, 0, -1), NONE);
            EDGES.due("letter 5", x.letter(kind, 0, 5), 0);
            EDGES.due("letter 6", x.letter(kind, 0, 6), NONE);
            EDGES.due("far behind", x.letter(kind, Integer.MAX_VALUE, 0), NONE);
            EDGES.due("far letter", x.letter(kind, 0, Integer.MIN_VALUE), NONE);
        }
        EDGES.due("kind -1", x.letter(-1, 0, 0), NONE);
        EDGES.due("kind 3", x.letter(3, 0, 0), NONE);
        x = Watched.made(BAR + "board pp at 3;");
        EDGES.row("one bar, one board, no trick", new int[] {x.letter(0, 0, 0), x.letter(0, 1, 0), x.letter(1, 0, 1),
            x.letter(1, 1, 0), x.letter(2, 0, 0)}, 1, NONE, 16, NONE, NONE);
    }

    private static void lastCall() {
        EDGES.of("What it is", "An object is used for at most 512 calls after it has been made");
        Watched x = Watched.made(STILL);
        while (x.calls() < 508) {
            x.fill(0, 0, 8, 80);
            x.unbook();
            x.ways(0, 0, 8, 80);
        }
        while (x.calls() < 511) {
            x.unbook();
        }
        EDGES.due("the 512th call", x.best(0, 0, 8, 80), 24);
        EDGES.due("calls", x.calls(), Watched.MOST_CALLS);
    }
}
