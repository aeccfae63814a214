import java.util.Arrays;

/** The boundary cases of promises 35 to 37 and of Terms III on images: image, octet, on. */
public final class EdgeImageTest {
    private static final Edges EDGES = new Edges();
    private static final int NONE = FlyingBars.NONE;
    /** Three bars, two boards, two tricks of 3 and 20 ticks. */
    private static final String RIG = "bar a at 9 every 4 from 0 reach 0;bar b at 9 every 4 from 0 reach 0;bar c at 9 every 4 from 0 reach 0;board p at 9;board q at 11;"
            + "trick t ticks 3 arms 0 worth 900 when all;trick u ticks 20 arms 0 worth 5 when all;";
    /** Two acts; the first one by 300, with two flights. */
    private static final int[] TWO = {2, 1, 44, 1, 2, 1, 2, 4, 0, 0, 3, 132, 9, 1, 2, 0, 5, 70, 0, 0, 0, 0, 80, 0, 0, 80, 1};

    public static void main(String[] args) {
        howManyBytes();
        layout();
        lastByte();
        octets();
        latestImage();
        tapeGoes();
        howManyActs();
        shifts();
        barsBoardsTricks();
        howManyFlights();
        worths();
        ticks();
        beforeTheFlyerCame();
        goodOrNot();
        noImage();
        allStays();
        EDGES.finish();
    }

    private static Watched withTwo() {
        Watched x = Watched.made(RIG);
        boolean well = x.take(1, 2, 1) && x.fly(4, 0, 0) && x.fly(9, 1, 2) && x.down(70, 0) && x.book(300) == 1;
        EDGES.due("two acts", well && x.take(0, 80, 0) && x.down(80, 1) && x.book(0) == 2, true);
        return x;
    }

    private static String told(byte[] bytes) {
        StringBuilder all = new StringBuilder();
        for (byte octet : bytes) {
            all.append(octet & 255).append(' ');
        }
        return all.toString();
    }

    private static void howManyBytes() {
        EDGES.of("Promise 35", "AN IMAGE is written: how many bytes.");
        EDGES.due("of an empty bill", new Watched().image(), 2);
        for (int flights = 0; flights <= 8; flights++) {
            Watched x = Watched.made(RIG);
            x.take(0, 0, 0);
            for (int i = 0; i < flights; i++) {
                x.fly(3 * i, 0, 1 - i % 2);
            }
            x.down(80, 0);
            for (int acts = 1; acts <= 6; acts++) {
                x.book(acts);
                EDGES.due(acts + " acts of " + flights + " flights", x.image(), 2 + acts * (8 + 5 * flights));
            }
            int length = 2 + 6 * (8 + 5 * flights);
            EDGES.row("its first and last byte", new int[] {x.octet(0), x.octet(length - 1) >= 0 ? 1 : 0, x.octet(length)}, 6, 1, NONE);
        }
    }

    private static void layout() {
        EDGES.of("Terms III", "a byte for how many ACTS; for each: its SHIFT (two bytes, the higher first), BOARD, tick, BAR, how many FLIGHTS, for each its tick, "
                + "TRICK, BAR, WORTH (two bytes), then tick and BOARD where it goes down");
        Watched x = withTwo();
        EDGES.due("how many", x.image(), TWO.length + 1);
        EDGES.due("octets", x.octets(), told(Checks.sealed(TWO)));
        int[] shifts = {0, 1, 255, 256, 257, 399, 400};
        for (int shift : shifts) {
            x = Watched.made(RIG);
            EDGES.due("plan", x.take(0, 5, 2) && x.down(6, 1) && x.book(shift) == 1, true);
            x.image();
            EDGES.due("shift " + shift, x.octets(), told(Checks.sealed(1, shift / 256, shift % 256, 0, 5, 2, 0, 6, 1)));
        }
        int[] worths = {0, 1, 255, 256, 511, 512, 767, 768, 999, 1000};
        for (int worth : worths) {
            x = Watched.made("bar a at 9 every 4 from 0 reach 0;bar b at 9 every 4 from 0 reach 0;board p at 9;trick t ticks 20 arms 0 worth WORTH when all;"
                    .replace("WORTH", "" + worth));
            EDGES.due("plan", x.take(0, 0, 1) && x.fly(60, 0, 0) && x.down(80, 0) && x.book(0) == 1, true);
            x.image();
            EDGES.due("worth " + worth, x.octets(), told(Checks.sealed(1, 0, 0, 0, 0, 1, 1, 60, 0, 0, worth / 256, worth % 256, 80, 0)));
        }
    }

    private static void lastByte() {
        EDGES.of("Terms III", "last a byte: all ahead from 9 on, c = (5 c + it) mod 241");
        boolean least = false;
        boolean greatest = false;
        for (int tick = 0; tick <= 80; tick++) {
            for (int shift = 0; shift <= 6; shift++) {
                byte[] sealed = Checks.sealed(1, 0, shift, 0, tick, 0, 0, 80, 0);
                int last = sealed[sealed.length - 1] & 255;
                if (last > 0 && last < 240) {
                    continue;
                }
                least |= last == 0;
                greatest |= last == 240;
                Watched x = Watched.made(RIG);
                EDGES.due("plan", x.take(0, tick, 0) && x.down(80, 0) && x.book(shift) == 1, true);
                x.image();
                EDGES.due("octets", x.octets(), told(sealed));
                EDGES.due("on with " + last, x.on(sealed), true);
                sealed[sealed.length - 1] = (byte) (last == 0 ? 241 : 239);
                EDGES.due("on with another one", x.on(sealed), false);
                sealed[sealed.length - 1] = (byte) (last == 0 ? 1 : 241);
                EDGES.due("on with another one", x.on(sealed), false);
            }
        }
        EDGES.due("a last byte of 0 and one of 240", least && greatest, true);
        for (int off = -2; off <= 2; off++) {
            byte[] bytes = Checks.sealed(TWO);
            bytes[bytes.length - 1] += (byte) off;
            Watched x = Watched.made(RIG);
            EDGES.due("the last byte " + off + " off", x.on(bytes), off == 0);
            EDGES.due("acts", x.has(4), off == 0 ? 2 : 0);
        }
    }

    private static void octets() {
        EDGES.of("Promise 36", "Byte k of the latest image(); NONE when there is none such.");
        EDGES.row("ahead of any", new int[] {new Watched().octet(-1), new Watched().octet(0), new Watched().octet(1)}, NONE, NONE, NONE);
        Watched x = withTwo();
        EDGES.due("ahead of any, with acts", x.octet(0), NONE);
        int length = x.image();
        byte[] sealed = Checks.sealed(TWO);
        for (int k = 0; k < length; k++) {
            EDGES.due("octet(" + k + ")", x.octet(k), sealed[k] & 255);
        }
        EDGES.row("beside them", new int[] {x.octet(-1), x.octet(length), x.octet(length + 1), x.octet(289), x.octet(290), x.octet(Integer.MAX_VALUE), x.octet(Integer.MIN_VALUE)},
                NONE, NONE, NONE, NONE, NONE, NONE, NONE);
        x = Scenes.full();
        length = x.image();
        EDGES.due("the longest of all", length, 290);
        EDGES.row("its ends", new int[] {x.octet(0), x.octet(289) == NONE ? 1 : 0, x.octet(290)}, 6, 0, NONE);
    }

    private static void latestImage() {
        EDGES.of("Promise 36", "of the latest image()");
        Watched x = withTwo();
        x.image();
        String two = x.octets();
        x.unbook();
        x.take(0, 0, 0);
        EDGES.due("it stays when an act goes", x.octets(), two);
        x.rig("");
        EDGES.due("it stays with a new rig", x.octets(), two);
        EDGES.due("on", x.on(new byte[] {0, 45}), true);
        EDGES.due("it stays with on()", x.octets(), two);
        EDGES.due("image", x.image(), 2);
        EDGES.row("a shorter one", new int[] {x.octet(0), x.octet(1), x.octet(2), x.octet(3), x.octet(27)}, 0, 45, NONE, NONE, NONE);
    }

    private static void tapeGoes() {
        EDGES.of("Promise 37", "The tape (it goes) is AN IMAGE: true, THE BILL is as it tells");
        Watched x = Watched.made(RIG);
        EDGES.due("on", x.on(Checks.sealed(TWO)), true);
        EDGES.due("the tape went", x.end(1), false);
        EDGES.row("the bill", new int[] {x.has(4), x.bill(0), x.bill(1), x.bill(2), x.at(0, 302), x.at(0, 305), x.at(0, 307), x.at(0, 310), x.at(0, 329), x.at(0, 370),
            x.at(0, 371), x.at(1, 80)}, 2, 905, 370, 1, 1, 10, 0, 11, 2, 2, NONE, 0);
        x.image();
        EDGES.due("its image", x.octets(), told(Checks.sealed(TWO)));
        EDGES.due("on with no byte", x.on(), false);
        EDGES.due("another bill", x.on(Checks.sealed(1, 0, 7, 0, 1, 0, 0, 2, 0)), true);
        EDGES.row("in place of it", new int[] {x.has(4), x.at(0, 7), x.at(0, 8), x.at(1, 80)}, 1, NONE, 0, NONE);
        EDGES.due("an empty one", x.on(new byte[] {0, 45}), true);
        EDGES.due("no acts", x.has(4), 0);
        EDGES.due("the tape goes, too, when it is none", x.on(new byte[] {0, 44}), false);
        EDGES.due("the tape went", x.end(1), false);
        x = withTwo();
        EDGES.due("take", x.take(1, 3, 2), true);
        EDGES.due("on", x.on(new byte[] {0, 45}), true);
        EDGES.row("the plan stays", new int[] {x.plan(0), x.plan(1), x.plan(2), x.plan(3), x.has(4)}, 3, 2, 1, NONE, 0);
    }

    /** The image with one byte another is taken or not; what is not taken leaves the bill as it was. */
    private static void taken(String call, int[] image, boolean due) {
        Watched x = Watched.made(RIG);
        EDGES.due("a bill", x.on(Checks.sealed(1, 0, 5, 1, 7, 2, 0, 9, 0)), true);
        EDGES.due(call, x.on(Checks.sealed(image)), due);
        EDGES.due("the tape went", x.end(1), false);
        x.image();
        EDGES.due("the bill behind " + call, x.octets(), told(due ? Checks.sealed(image) : Checks.sealed(1, 0, 5, 1, 7, 2, 0, 9, 0)));
    }

    private static int[] with(int k, int octet) {
        int[] other = TWO.clone();
        other[k] = octet;
        return other;
    }

    private static void howManyActs() {
        EDGES.of("Terms III", "a byte for how many ACTS");
        int[] one = {0, 0, 0, 1, 0, 0, 2, 1};
        for (int acts = 0; acts <= 8; acts++) {
            int[] image = new int[1 + 8 * acts];
            image[0] = acts;
            for (int i = 0; i < acts; i++) {
                System.arraycopy(one, 0, image, 1 + 8 * i, 8);
                image[2 + 8 * i] = 10 * i;
            }
            taken(acts + " acts", image, acts <= 6);
        }
        for (int acts : new int[] {0, 1, 3, 6, 7, 255}) {
            taken(acts + " told, two there", with(0, acts), false);
        }
        int[] cut = Arrays.copyOf(TWO, TWO.length);
        taken("two told, two there", cut, true);
    }

    private static void shifts() {
        EDGES.of("Terms III", "SHIFTS 0 .. 400");
        int[] shifts = {0, 1, 255, 256, 399, 400, 401, 402, 511, 512, 32768, 65535};
        for (int shift : shifts) {
            int[] image = TWO.clone();
            image[1] = shift / 256;
            image[2] = shift % 256;
            taken("shift " + shift, image, shift <= 400);
            image = TWO.clone();
            image[19] = shift / 256;
            image[20] = shift % 256;
            taken("shift " + shift + " of the last act", image, shift <= 400);
        }
    }

    private static void barsBoardsTricks() {
        EDGES.of("Terms III", "with BARS, BOARDS, TRICKS that are there");
        int[] octets = {0, 1, 2, 3, 4, 7, 8, 127, 128, 255};
        for (int octet : octets) {
            taken("board " + octet, with(3, octet), octet < 2);
            taken("board where it goes down " + octet, with(18, octet), octet < 2);
            taken("board of the last act " + octet, with(21, octet), octet < 2);
            taken("last board of all " + octet, with(26, octet), octet < 2);
            // A flight is to another bar: the first one goes from bar 1 to bar 0, the second one to bar 2.
            taken("bar " + octet, with(5, octet), octet == 1 || octet == 2);
            taken("bar of the first flight " + octet, with(9, octet), octet == 0);
            taken("bar of the second flight " + octet, with(14, octet), octet == 1 || octet == 2);
            taken("bar of the last act " + octet, with(23, octet), octet < 3);
            taken("trick of the first flight " + octet, with(8, octet), octet == 0);
            taken("trick of the second flight " + octet, with(13, octet), octet < 2);
        }
        Watched x = Watched.made("bar a at 9 every 4 from 0 reach 0;board p at 9;");
        EDGES.due("an image of another rig", x.on(Checks.sealed(TWO)), false);
        EDGES.due("no acts", x.has(4), 0);
        EDGES.due("without bars and boards", new Watched().on(Checks.sealed(1, 0, 0, 0, 0, 0, 0, 0, 0)), false);
        EDGES.due("without a board", Watched.made("bar a at 9 every 4 from 0 reach 0;").on(Checks.sealed(1, 0, 0, 0, 0, 0, 0, 0, 0)), false);
        EDGES.due("without a bar", Watched.made("board p at 9;").on(Checks.sealed(1, 0, 0, 0, 0, 0, 0, 0, 0)), false);
    }

    private static int[] withFlights(int told, int there, int apart) {
        int[] image = new int[9 + 5 * there];
        image[0] = 1;
        image[6] = told;
        for (int i = 0; i < there; i++) {
            image[7 + 5 * i] = apart * i;
            image[9 + 5 * i] = 1 - i % 2;
        }
        image[7 + 5 * there] = 80;
        return image;
    }

    private static void howManyFlights() {
        EDGES.of("Terms III", "how many FLIGHTS, for each its tick, TRICK, BAR, WORTH (two bytes)");
        for (int flights = 0; flights <= 10; flights++) {
            taken(flights + " flights", withFlights(flights, flights, 3), flights <= 8);
        }
        taken("one told, two there", withFlights(1, 2, 3), false);
        taken("three told, two there", withFlights(3, 2, 3), false);
        taken("255 told", withFlights(255, 8, 3), false);
        taken("9 told, 8 there", withFlights(9, 8, 3), false);
    }

    private static void worths() {
        EDGES.of("Terms III", "WORTHS 0 .. 1000");
        int[] worths = {0, 1, 255, 256, 999, 1000, 1001, 1002, 1024, 32768, 65535};
        for (int worth : worths) {
            int[] image = TWO.clone();
            image[10] = worth / 256;
            image[11] = worth % 256;
            taken("worth " + worth, image, worth <= 1000);
            image = TWO.clone();
            image[15] = worth / 256;
            image[16] = worth % 256;
            taken("worth " + worth + " of the second flight", image, worth <= 1000);
        }
        Watched x = Watched.made(RIG);
        int[] image = TWO.clone();
        image[10] = 0;
        image[11] = 3;
        EDGES.due("a worth that is not the flight's", x.on(Checks.sealed(image)), true);
        EDGES.due("as told", x.bill(0), 8);
    }

    private static void ticks() {
        EDGES.of("Terms III", "ticks 0 .. 80");
        int[] ticks = {0, 1, 79, 80, 81, 82, 127, 128, 255};
        for (int tick : ticks) {
            int[] one = {1, 0, 0, 0, tick, 0, 0, tick, 0};
            taken("an act of tick " + tick, one, tick <= 80);
            taken("down at " + tick, new int[] {1, 0, 0, 0, 0, 0, 0, tick, 0}, tick <= 80);
            taken("taken at " + tick, new int[] {1, 0, 0, 0, tick, 0, 0, 80, 0}, tick <= 80);
        }
        for (int tick = 75; tick <= 82; tick++) {
            taken("a flight at " + tick + " and down at 80", new int[] {1, 0, 0, 0, 0, 0, 1, tick, 0, 1, 0, 0, 80, 0}, tick <= 77);
            taken("a flight at " + tick + " and down when it comes", new int[] {1, 0, 0, 0, 0, 0, 1, tick, 0, 1, 0, 0, tick + 3, 0}, tick <= 77);
        }
        for (int tick = 59; tick <= 62; tick++) {
            taken("a long flight at " + tick, new int[] {1, 0, 0, 0, 0, 0, 1, tick, 1, 1, 0, 0, 80, 0}, tick <= 60);
        }
    }

    private static void beforeTheFlyerCame() {
        EDGES.of("Terms III", "none before the flyer came");
        for (int tick = 0; tick <= 12; tick++) {
            taken("taken at " + tick + ", let go at 4", with(4, tick), tick <= 4);
            taken("taken at 2, let go at " + tick + ", once more at 9", with(7, tick), tick >= 2 && tick <= 6);
            taken("let go at 4, once more at " + tick, with(12, tick), tick >= 7);
        }
        for (int tick = 26; tick <= 32; tick++) {
            taken("let go at 9 for 20 ticks, down at " + tick, with(17, tick), tick >= 29);
        }
        for (int tick = 77; tick <= 81; tick++) {
            taken("taken at 80, down at " + tick, with(25, tick), tick == 80);
        }
        for (int tick = 6; tick <= 8; tick++) {
            taken("taken at 7, down at " + tick, new int[] {1, 0, 0, 0, 7, 0, 0, tick, 0}, tick >= 7);
        }
    }

    private static void goodOrNot() {
        EDGES.of("Terms III", "(GOOD or not)");
        Watched x = Watched.made("bar a at 9 every 4 from 0 reach 0;bar b at 90 every 4 from 0 reach 0;board p at 9;board q at 300;trick t ticks 3 arms 0 worth 9 when not all;");
        EDGES.due("not by the board", x.on(Checks.sealed(1, 0, 0, 1, 0, 0, 0, 5, 0)), true);
        EDGES.due("fails", x.fails(0), 0);
        EDGES.due("no flight that could be", x.on(Checks.sealed(1, 0, 0, 0, 0, 0, 1, 0, 0, 1, 0, 9, 5, 0)), true);
        EDGES.due("fails", x.fails(0), 1);
        EDGES.due("not by the board where it goes down", x.on(Checks.sealed(1, 0, 0, 0, 0, 0, 0, 5, 1)), true);
        EDGES.due("fails", x.fails(0), 1);
        EDGES.due("acts that quarrel", x.on(Checks.sealed(2, 0, 0, 0, 0, 0, 0, 5, 0, 0, 0, 0, 0, 0, 0, 5, 0)), true);
        EDGES.row("they quarrel", new int[] {x.quarrel(0, 1), x.fails(0), x.fails(1)}, 0, NONE, NONE);
    }

    private static void noImage() {
        EDGES.of("Promise 37", "false when it is none (all stays).");
        byte[] whole = Checks.sealed(TWO);
        for (int length = 0; length <= whole.length + 2; length++) {
            Watched x = Watched.made(RIG);
            EDGES.due("the first " + length + " bytes of " + whole.length, x.on(Arrays.copyOf(whole, length)), length == whole.length);
            EDGES.due("acts", x.has(4), length == whole.length ? 2 : 0);
        }
        // Cut off and sealed anew, so that the last byte is right.
        for (int length = 0; length <= TWO.length; length++) {
            taken("the first " + length + " and a last byte", Arrays.copyOf(TWO, length), length == TWO.length);
        }
        // With a byte that can't be, and cut off at any place behind it.
        int[][] wrong = {{1, 2}, {3, 9}, {4, 81}, {5, 9}, {6, 9}, {7, 1}, {8, 9}, {9, 9}, {10, 4}, {12, 6}, {14, 9}, {17, 28}, {18, 9}, {22, 81}};
        for (int[] w : wrong) {
            for (int length = w[0] + 1; length <= TWO.length; length++) {
                for (int acts = 1; acts <= 2; acts++) {
                    int[] image = Arrays.copyOf(with(w[0], w[1]), length);
                    image[0] = acts;
                    Watched x = Watched.made(RIG);
                    EDGES.due("byte " + w[0] + " is " + w[1] + ", the first " + length + " and a last byte", x.on(Checks.sealed(image)), false);
                    EDGES.due("acts", x.has(4), 0);
                }
            }
        }
        for (int more = 1; more <= 3; more++) {
            taken(more + " bytes more and a last byte", Arrays.copyOf(TWO, TWO.length + more), false);
        }
        for (int k = 0; k < whole.length; k++) {
            byte[] other = whole.clone();
            other[k]++;
            Watched x = Watched.made(RIG);
            EDGES.due("byte " + k + " one more, not sealed anew", x.on(other), false);
        }
        Watched x = Watched.made(RIG);
        EDGES.due("a tape of 900 bytes", x.on(Arrays.copyOf(new byte[] {0, 45}, 900)), false);
        EDGES.due("two bytes", x.on(new byte[] {0, 45}), true);
    }

    private static void allStays() {
        EDGES.of("Promise 37", "(all stays)");
        byte[][] wrong = {{}, {0}, {0, 44}, {0, 45, 0}, {0, 46}, {7, 52}, Checks.sealed(1, 0, 0, 0, 0, 0, 0, 81, 0), Checks.sealed(1, 0, 8, 1, 4, 2, 0, 12, 2),
            Checks.sealed(2, 0, 8, 1, 4, 2, 0, 12, 1, 0, 16, 1, 4, 2, 0, 12, 2), Checks.sealed(1, 1, 145, 0, 0, 0, 0, 0, 0)};
        for (byte[] bytes : wrong) {
            Watched before = Scenes.planOpen();
            before.end(0);
            Watched x = Scenes.planOpen();
            x.end(0);
            EDGES.due("on of " + told(bytes), x.on(bytes), false);
            EDGES.due("what is there behind " + told(bytes), x.look(), before.look());
        }
        EDGES.stays("on of a text", Scenes::noPlan, 0, x -> x.on() ? 1 : 0);
        Watched x = Scenes.fullTape();
        EDGES.due("on of 900 bytes", x.on(), false);
        EDGES.due("acts", x.has(4), 2);
    }
}
