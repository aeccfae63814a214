/** The boundary cases of promises 26 to 34 and of Terms III on the bill: book, unbook, shift, quarrel, at, fails, slack, fill, bill. */
public final class EdgeBillTest {
    private static final Edges EDGES = new Edges();
    private static final int NONE = FlyingBars.NONE;
    private static final String STILL = "bar a at 9 every 4 from 0 reach 0;bar b at 9 every 4 from 0 reach 0;board p at 9;";

    public static void main(String[] args) {
        bookShifts();
        bookGoodSo();
        bookSix();
        bookRefused();
        unbooks();
        leastShift();
        shiftNone();
        hangOnOneBar();
        inTheAir();
        quarrelNone();
        atTicks();
        atNone();
        failsAtSteps();
        failsNone();
        slackNumbers();
        slackByPeriods();
        slackNone();
        fillsUp();
        fillStays();
        fillTillThereIsNone();
        fillRefused();
        billTogether();
        billOthers();
        EDGES.finish();
    }

    /** A plan on still bars: taken, perhaps flown once, gone down. */
    private static boolean act(Watched x, int tick, int bar, int flies, int trick, int end) {
        boolean well = x.take(0, tick, bar);
        if (flies >= 0) {
            well &= x.fly(flies, trick, 1 - bar);
        }
        return well & x.down(end, 0);
    }

    private static int[] shifts(Watched x) {
        x.image();
        int[] shifts = new int[x.octet(0)];
        int k = 1;
        for (int i = 0; i < shifts.length; i++) {
            shifts[i] = 256 * x.octet(k) + x.octet(k + 1);
            k += 8 + 5 * x.octet(k + 5);
        }
        return shifts;
    }

    private static void bookShifts() {
        EDGES.of("Terms III", "SHIFTED by a number it has all its ticks so much later (0 .. 400)");
        int[] numbers = {-1, 0, 1, 399, 400, 401, Integer.MAX_VALUE, Integer.MIN_VALUE};
        for (int shift : numbers) {
            Watched x = Watched.made(STILL + "trick t ticks 3 arms 0 worth 5 when all;");
            EDGES.due("plan", act(x, 2, 0, 4, 0, 80), true);
            boolean can = shift >= 0 && shift <= 400;
            EDGES.due("book(" + shift + ")", x.book(shift), can ? 1 : NONE);
            EDGES.due("acts", x.has(4), can ? 1 : 0);
            if (can) {
                EDGES.row("its ticks", new int[] {x.at(0, shift + 1), x.at(0, shift + 2), x.at(0, shift + 4), x.at(0, shift + 5), x.at(0, shift + 6),
                    x.at(0, shift + 7), x.at(0, shift + 80), x.at(0, shift + 81), x.bill(1)}, NONE, 0, 0, 10, 10, 1, 1, NONE, shift + 80);
                EDGES.row("the plan stays", new int[] {x.plan(0), x.step(0, 0), x.plan(3)}, 2, 4, 80);
            }
        }
    }

    private static void bookGoodSo() {
        EDGES.of("Terms III", "it must be GOOD so, too (ticks above 80 are well)");
        // aa is by ll at ticks 0, 8 ..; the flight is good at 6, 14 ..; bb is by rr at 12, 20 ..: it is good by eights alone.
        for (int shift = 0; shift <= 17; shift++) {
            Watched x = Scenes.noPlan();
            x.best(0, 1, 1, 80);
            EDGES.due("book(" + shift + ")", x.book(shift), shift % 8 == 0 ? 1 : NONE);
        }
        Watched x = Scenes.noPlan();
        x.best(0, 1, 1, 80);
        EDGES.row("far above 80", new int[] {x.book(399), x.book(400), x.fails(0), x.bill(1)}, NONE, 1, NONE, 412);
        // What fails is taking, flying, going down alone.
        String slow = "bar a at 9 every 4 from 0 reach 0;bar b at 9 every 40 from 0 reach 60;board p at 9;board q at 68;";
        x = Watched.made(slow);
        EDGES.due("plan", x.take(1, 0, 1) && x.down(1, 1), true);
        EDGES.row("b is by q at 39, 40 and 41", new int[] {x.book(38), x.book(39), x.book(40), x.book(41)}, NONE, 1, 2, NONE);
        EDGES.due("plan", x.take(1, 40, 1) && x.down(40, 1), true);
        EDGES.row("at one tick", new int[] {x.book(0), x.book(1), x.book(2), x.book(398), x.book(399), x.book(400)}, 3, 4, NONE, NONE, 5, 6);
        x = Watched.made(STILL + "trick t ticks 2 arms 0 worth 1 when tick<90;trick u ticks 2 arms 0 worth 1 when tick>90 or tick<9;");
        EDGES.due("plan", act(x, 0, 0, 3, 0, 9), true);
        EDGES.row("a flight at 89, at 90", new int[] {x.book(86), x.book(87)}, 1, NONE);
        EDGES.due("plan", act(x, 0, 0, 3, 1, 9), true);
        EDGES.row("a flight at 8, 9, 90, 91", new int[] {x.book(5), x.book(6), x.book(87), x.book(88)}, 2, NONE, NONE, 3);
        // Bar a is by board p at ticks 1 and 2, 6 and 7 of eight; the flight and going down can be at any tick.
        x = Watched.made("bar a at 100 every 8 from 0 reach 20;bar b at 100 every 4 from 0 reach 0;board p at 105;trick t ticks 1 arms 40 worth 5 when all;");
        EDGES.due("plan", x.take(0, 1, 0) && x.fly(2, 0, 1) && x.down(5, 0), true);
        int[] taken = {1, 1, 0, 0, 0, 1, 1, 0, 1};
        for (int shift = 0; shift < taken.length; shift++) {
            EDGES.due("taken at " + (1 + shift), x.book(shift), taken[shift] == 1 ? x.has(4) : NONE);
        }
        EDGES.of("Promise 26", "it is not GOOD so");
        x = Scenes.planDown();
        EDGES.due("change", x.change(2, 9, 0, 60), true);
        EDGES.due("a bar that it has nothing to do with", x.book(0), 3);
        EDGES.due("change", x.change(1, 8, 5, 20), true);
        EDGES.due("by how bars go now", x.book(0), NONE);
        EDGES.due("change", x.change(1, 8, 4, 20), true);
        EDGES.due("by how they go once more", x.book(0), 4);
    }

    private static void bookSix() {
        EDGES.of("Promise 26", "THE PLAN (gone down) is SHIFTED onto THE BILL: how many ACTS there are");
        Watched x = Watched.made(STILL + "trick t ticks 3 arms 0 worth 5 when all;");
        EDGES.due("plan", act(x, 2, 0, 4, 0, 9), true);
        for (int i = 1; i <= 6; i++) {
            EDGES.due("book no. " + i, x.book(10 * i), i);
        }
        EDGES.row("shifts", shifts(x), 10, 20, 30, 40, 50, 60);
        EDGES.due("a 7th", x.book(70), NONE);
        EDGES.row("shifts", shifts(x), 10, 20, 30, 40, 50, 60);
        EDGES.due("unbook", x.unbook(), 5);
        EDGES.due("a 6th", x.book(70), 6);
        EDGES.row("shifts", shifts(x), 10, 20, 30, 40, 50, 70);
        EDGES.of("Promise 26", "(It may QUARREL.)");
        x = Watched.made(STILL);
        EDGES.due("plan", act(x, 2, 0, -1, 0, 9), true);
        EDGES.row("one onto the other", new int[] {x.book(0), x.book(0), x.book(7), x.quarrel(0, 1), x.quarrel(1, 2)}, 1, 2, 3, 2, 9);
    }

    private static void bookRefused() {
        EDGES.of("Promise 26", "NONE when it can't be, it is not GOOD so, or there are 6.");
        int[] wrong = {-1, 401, 1, 7, Integer.MIN_VALUE, Integer.MAX_VALUE};
        for (int shift : wrong) {
            EDGES.stays("book(" + shift + ")", Scenes::planDown, NONE, x -> x.book(shift));
        }
        EDGES.stays("book of a plan that has not gone down", Scenes::planOpen, NONE, x -> x.book(0));
        EDGES.stays("book without a plan", Scenes::noPlan, NONE, x -> x.book(0));
        EDGES.stays("book with 6", Scenes::full, NONE, x -> x.book(0));
        EDGES.stays("book with 6", Scenes::full, NONE, x -> x.book(400));
        EDGES.row("beside them", new int[] {Scenes.planDown().book(0), Scenes.planDown().book(8), Scenes.planDown().book(400)}, 3, 3, 3);
        EDGES.due("of a new object", new Watched().book(0), NONE);
    }

    private static void unbooks() {
        EDGES.of("Promise 27", "The last ACT of THE BILL goes: how many are left; NONE without.");
        Watched x = Watched.made(STILL);
        EDGES.due("plan", act(x, 2, 0, -1, 0, 9), true);
        for (int i = 1; i <= 6; i++) {
            x.book(10 * i);
        }
        for (int left = 5; left >= 0; left--) {
            EDGES.due("unbook", x.unbook(), left);
            EDGES.row("has, last tick, the last one's", new int[] {x.has(4), x.bill(1), x.at(left, 10 * left + 12), x.at(left - 1, 10 * left + 2)},
                    left, left == 0 ? 0 : 10 * left + 9, NONE, left == 0 ? NONE : 0);
        }
        EDGES.due("unbook without", x.unbook(), NONE);
        EDGES.due("has", x.has(4), 0);
        EDGES.due("the plan stays", x.plan(3), 9);
        EDGES.due("book anew", x.book(0), 1);
        EDGES.stays("unbook without", Scenes::noPlan, NONE, y -> y.unbook());
        EDGES.due("of a new object", new Watched().unbook(), NONE);
    }

    private static void leastShift() {
        EDGES.of("Promise 28", "The least SHIFT (0 .. 400) by which THE PLAN (gone down) is GOOD and QUARRELS with no ACT of THE BILL");
        Watched x = Watched.made(STILL + "trick t ticks 2 arms 0 worth 5 when tick=3 or tick>100;");
        EDGES.due("plan", act(x, 0, 0, 3, 0, 8), true);
        EDGES.due("on an empty bill", x.shift(), 0);
        EDGES.due("book", x.book(0), 1);
        EDGES.due("it is good from 98 on", x.shift(), 98);
        EDGES.due("book", x.book(98), 2);
        // It hangs on a at 98 .. 101, flies at 102, hangs on b at 103 .. 106: four ticks later nothing is held twice.
        EDGES.due("behind it", x.shift(), 102);
        EDGES.due("book", x.book(103), 3);
        EDGES.due("between the two and behind", x.shift(), 107);
        EDGES.due("book", x.book(107), 4);
        EDGES.due("behind all", x.shift(), 111);
        EDGES.stays("shift", Scenes::planDown, 8, y -> y.shift());
        for (int last = 399; last <= 401; last++) {
            x = Watched.made(STILL + "trick t ticks 2 arms 0 worth 5 when tick=3 or tick=" + (3 + last) + ";");
            EDGES.due("plan", act(x, 0, 0, 3, 0, 8) && x.book(0) == 1, true);
            EDGES.due("good at " + last, x.shift(), last <= 400 ? last : NONE);
        }
        x = Watched.made(STILL);
        EDGES.due("plan", act(x, 0, 0, -1, 0, 80), true);
        for (int i = 0; i < 4; i++) {
            EDGES.due("81 ticks later", x.shift(), 81 * i);
            EDGES.due("book", x.book(81 * i), i + 1);
        }
        EDGES.row("the last that fits", new int[] {x.shift(), x.book(324), x.shift()}, 324, 5, NONE);
        EDGES.due("unbook", x.unbook(), 4);
        EDGES.row("one later still", new int[] {x.book(319), x.shift()}, 5, 400);
        EDGES.row("two later", new int[] {x.unbook(), x.book(320), x.shift()}, 4, 5, NONE);
        x = Scenes.full();
        EDGES.due("with six acts", x.shift() > 0, true);
    }

    private static void shiftNone() {
        EDGES.of("Promise 28", "NONE when there is none.");
        EDGES.stays("shift without a plan", Scenes::noPlan, NONE, x -> x.shift());
        EDGES.stays("shift of a plan that has not gone down", Scenes::planOpen, NONE, x -> x.shift());
        EDGES.due("of a new object", new Watched().shift(), NONE);
        Watched x = Scenes.planDown();
        EDGES.due("change", x.change(1, 8, 4, 0), true);
        EDGES.due("good at none", x.shift(), NONE);
        x = Watched.made(STILL + "trick t ticks 2 arms 0 worth 5 when tick=3;");
        EDGES.due("plan", act(x, 0, 0, 3, 0, 8) && x.shift() == 0 && x.book(0) == 1, true);
        EDGES.due("good at one that is taken", x.shift(), NONE);
    }

    private static void hangOnOneBar() {
        EDGES.of("Terms III", "two hang on one BAR (from the tick at which one comes to it up to that at which it leaves it, both counted)");
        // The first one hangs on a at 10 .. 14, flies at 15 and 16, hangs on b at 17 .. 20.
        int[][] others = {{5, 9, 0, NONE}, {5, 10, 0, 10}, {5, 11, 0, 10}, {12, 13, 0, 12}, {13, 14, 0, 13}, {14, 18, 0, 14}, {15, 18, 0, NONE}, {10, 16, 1, NONE},
            {10, 17, 1, 17}, {17, 17, 1, 17}, {18, 19, 1, 18}, {20, 25, 1, 20}, {21, 25, 1, NONE}, {9, 9, 0, NONE}, {10, 10, 0, 10}, {14, 14, 0, 14}, {16, 16, 1, NONE},
            {20, 20, 1, 20}, {21, 21, 1, NONE}, {15, 80, 0, NONE}, {0, 16, 1, NONE}};
        for (int[] o : others) {
            Watched x = Watched.made(STILL + "trick t ticks 3 arms 0 worth 5 when all;");
            EDGES.due("first", act(x, 0, 0, 4, 0, 10) && x.book(10) == 1, true);
            EDGES.due("second", act(x, o[0], o[2], -1, 0, o[1]) && x.book(0) == 2, true);
            EDGES.row("on bar " + o[2] + " at " + o[0] + " .. " + o[1], new int[] {x.quarrel(0, 1), x.quarrel(1, 0)}, o[3], o[3]);
        }
        // One lands where the other lets go.
        for (int apart = 3; apart <= 6; apart++) {
            Watched x = Watched.made(STILL + "trick t ticks 1 arms 0 worth 5 when all;");
            EDGES.due("first", act(x, 0, 0, 4, 0, 10) && x.book(0) == 1, true);
            EDGES.due("second", act(x, 0, 1, apart, 0, 10) && x.book(0) == 2, true);
            EDGES.due("one lets go at 4, the other at " + apart, x.quarrel(0, 1), apart < 4 ? 4 : apart == 4 ? NONE : 5);
        }
    }

    private static void inTheAir() {
        EDGES.of("Terms III", "or two are IN THE AIR not more than 2 apart");
        // The first one lets go of bar a at tick 4, at 80, and goes by 10 a tick: 90, 100, 110 at 5, 6, 7; at 8 it is down.
        for (int place = 75; place <= 125; place++) {
            Watched x = Watched.made("bar a at 100 every 8 from 0 reach 20;bar b at 120 every 4 from 0 reach 0;bar c at " + place + " every 4 from 0 reach 0;"
                    + "bar d at " + place + " every 4 from 0 reach 0;board p at 120;board q at " + place
                    + ";trick t ticks 4 arms 0 worth 5 when all;trick u ticks 7 arms 0 worth 5 when all;");
            EDGES.due("first", x.take(0, 0, 0) && x.fly(4, 0, 1) && x.down(9, 0) && x.book(0) == 1, true);
            EDGES.due("second", x.take(1, 0, 2) && x.fly(2, 1, 3) && x.down(9, 1) && x.book(0) == 2, true);
            int due = place >= 88 && place <= 92 ? 5 : place >= 98 && place <= 102 ? 6 : place >= 108 && place <= 112 ? 7 : NONE;
            EDGES.row("the other flies at " + place, new int[] {x.quarrel(0, 1), x.quarrel(1, 0)}, due, due);
        }
        EDGES.of("Terms II", "i ticks behind t at where that BAR was at t and i times its SPEED at t");
        // The first one lets go of bar a, which rises by 10: at 5, at 90; by 1 at 6, at 100; by 7 at 12, at 80.
        for (int place = 75; place <= 135; place++) {
            for (int shift = 0; shift <= 7; shift += shift == 0 ? 1 : 6) {
                Watched x = Watched.made("bar a at 100 every 8 from 0 reach 20;bar b at 110 every 4 from 0 reach 0;bar c at " + place + " every 4 from 0 reach 0;"
                        + "bar d at " + place + " every 4 from 0 reach 0;board p at 115;board q at " + place + ";board r at 110;"
                        + "trick t ticks 4 arms 40 worth 5 when all;trick u ticks 20 arms 0 worth 5 when all;");
                EDGES.due("first", x.take(0, 0, 0) && x.fly(5, 0, 1) && x.down(9, 2) && x.book(shift) == 1, true);
                EDGES.due("second", x.take(1, 0, 2) && x.fly(0, 1, 3) && x.down(21, 1) && x.book(0) == 2, true);
                int due = NONE;
                for (int i = 3; i >= 1; i--) {
                    int air = (shift == 0 ? 90 : shift == 1 ? 100 : 80) + 10 * i;
                    due = Math.abs(air - place) <= 2 ? 5 + shift + i : due;
                }
                EDGES.row("by " + shift + ", the other flies at " + place, new int[] {x.quarrel(0, 1), x.quarrel(1, 0)}, due, due);
                x.unbook();
                boolean well = x.take(1, 0, 2) && x.fly(0, 1, 3) && x.down(21, 1);
                EDGES.due("shift by " + shift + " of the other at " + place, well && x.shift() == 0, due == NONE);
            }
        }
        EDGES.of("Terms II", "it is IN THE AIR at the ticks t + 1 .. t + TICKS - 1");
        for (int ticks = 1; ticks <= 20; ticks++) {
            for (int later = Math.max(0, ticks - 3); later <= ticks + 1; later++) {
                Watched x = Watched.made("bar a at 9 every 4 from 0 reach 0;bar b at 9 every 4 from 0 reach 0;bar c at 11 every 4 from 0 reach 0;"
                        + "bar d at 11 every 4 from 0 reach 0;board p at 9;trick t ticks " + ticks + " arms 0 worth 5 when all;");
                EDGES.due("first", x.take(0, 0, 0) && x.fly(10, 0, 1) && x.down(80, 0) && x.book(0) == 1, true);
                EDGES.due("second", x.take(0, 0, 2) && x.fly(10 + later, 0, 3) && x.down(80, 0) && x.book(0) == 2, true);
                // The first is in the air at 11 .. 9 + ticks, the second from 11 + later on.
                EDGES.due(ticks + " ticks, " + later + " later", x.quarrel(0, 1), later <= ticks - 2 ? 11 + later : NONE);
            }
        }
    }

    private static void quarrelNone() {
        EDGES.of("Promise 29", "NONE when they don't, or there are none such (unlike ones).");
        Watched x = Watched.made(STILL);
        EDGES.due("quarrel on an empty bill", x.quarrel(0, 1), NONE);
        EDGES.due("plan", act(x, 0, 0, -1, 0, 9), true);
        x.book(0);
        EDGES.row("with one act", new int[] {x.quarrel(0, 0), x.quarrel(0, 1), x.quarrel(1, 0)}, NONE, NONE, NONE);
        x.book(0);
        x.book(400);
        EDGES.row("with three", new int[] {x.quarrel(0, 1), x.quarrel(1, 0), x.quarrel(0, 0), x.quarrel(1, 1), x.quarrel(2, 2), x.quarrel(0, 2), x.quarrel(2, 0),
            x.quarrel(0, 3), x.quarrel(3, 0), x.quarrel(-1, 0), x.quarrel(0, -1), x.quarrel(Integer.MAX_VALUE, 0), x.quarrel(0, Integer.MIN_VALUE)},
                0, 0, NONE, NONE, NONE, NONE, NONE, NONE, NONE, NONE, NONE, NONE, NONE);
        x.book(400);
        EDGES.row("at tick 400", new int[] {x.quarrel(2, 3), x.quarrel(3, 2)}, 400, 400);
        for (int i = 0; i < 2; i++) {
            x.book(200);
        }
        EDGES.row("with six", new int[] {x.quarrel(4, 5), x.quarrel(5, 4), x.quarrel(5, 6), x.quarrel(6, 5)}, 200, 200, NONE, NONE);
        EDGES.due("plan", act(x, 80, 0, -1, 0, 80), true);
        EDGES.row("the last tick of all", new int[] {x.unbook(), x.book(400), x.unbook(), x.book(400), x.book(400), x.quarrel(4, 5), x.bill(1)}, 5, 6, 5, 6, NONE, NONE, 480);
        EDGES.row("two at 480", new int[] {x.unbook(), x.unbook(), x.book(400), x.book(400), x.quarrel(4, 5)}, 5, 4, 5, 6, 480);
        EDGES.stays("quarrel", Scenes::full, NONE, y -> y.quarrel(0, 6));
    }

    private static void atTicks() {
        EDGES.of("Promise 30", "At a tick (0 .. 500), of an ACT of THE BILL: the BAR on which the flyer hangs; 10 and more: in the air (10 and the TRICK)");
        StringBuilder text = new StringBuilder("board p at 9;");
        for (int i = 0; i < 8; i++) {
            text.append("bar b").append((char) ('a' + i)).append(" at 9 every 4 from 0 reach 0;");
        }
        for (int i = 0; i < 8; i++) {
            text.append("trick t").append((char) ('a' + i)).append(" ticks ").append(i + 1).append(" arms 0 worth 1 when all;");
        }
        Watched x = Watched.made(text.toString());
        EDGES.due("take", x.take(0, 1, 0), true);
        int tick = 1;
        for (int i = 0; i < 8; i++) {
            EDGES.due("fly", x.fly(tick + 1, i, 7 - i > 3 ? 7 - i : (i + 1) % 7), true);
            tick += 1 + i + 1;
        }
        EDGES.due("down", x.down(tick + 2, 0) && x.book(0) == 1, true);
        int[] bars = {0, 7, 6, 5, 4, 5, 6, 0, 1};
        EDGES.row("ahead of it", new int[] {x.at(0, 0), x.at(0, 1)}, NONE, 0);
        tick = 1;
        for (int i = 0; i < 8; i++) {
            EDGES.row("before and at letting go", new int[] {x.at(0, tick), x.at(0, tick + 1)}, bars[i], bars[i]);
            for (int t = 1; t <= i; t++) {
                EDGES.due("in the air by trick " + i, x.at(0, tick + 1 + t), 10 + i);
            }
            tick += 1 + i + 1;
            EDGES.due("where it comes down", x.at(0, tick), bars[i + 1]);
        }
        EDGES.row("to its end", new int[] {x.at(0, tick + 1), x.at(0, tick + 2), x.at(0, tick + 3)}, 1, 1, NONE);
        EDGES.due("it does not fail", x.fails(0), NONE);
        EDGES.due("one on its last bar", x.take(0, tick + 1, 1) && x.down(80, 0) && x.book(0) == 2, true);
        EDGES.due("one on its first bar", x.take(0, tick + 1, 0) && x.down(80, 0) && x.book(0) == 3, true);
        EDGES.row("quarrels behind eight flights", new int[] {x.quarrel(0, 1), x.quarrel(1, 0), x.quarrel(0, 2), x.quarrel(2, 0)}, tick + 1, tick + 1, NONE, NONE);
    }

    private static void atNone() {
        EDGES.of("Promise 30", "NONE when neither, or there is none such.");
        Watched x = Watched.made(STILL);
        EDGES.due("plan", act(x, 0, 0, -1, 0, 80), true);
        EDGES.row("book", new int[] {x.book(0), x.book(400)}, 1, 2);
        EDGES.row("the first", new int[] {x.at(0, -1), x.at(0, 0), x.at(0, 80), x.at(0, 81), x.at(0, 500), x.at(0, 501)}, NONE, 0, 0, NONE, NONE, NONE);
        EDGES.row("the second", new int[] {x.at(1, 399), x.at(1, 400), x.at(1, 480), x.at(1, 481), x.at(1, 499), x.at(1, 500), x.at(1, 501)}, NONE, 0, 0, NONE, NONE, NONE, NONE);
        EDGES.row("none such", new int[] {x.at(-1, 0), x.at(2, 0), x.at(2, 400), x.at(Integer.MAX_VALUE, 0), x.at(Integer.MIN_VALUE, 0), x.at(0, Integer.MIN_VALUE),
            x.at(0, Integer.MAX_VALUE)}, NONE, NONE, NONE, NONE, NONE, NONE, NONE);
        EDGES.due("unbook", x.unbook(), 1);
        EDGES.due("an act that went", x.at(1, 400), NONE);
        EDGES.due("of a new object", new Watched().at(0, 0), NONE);
    }

    private static void failsAtSteps() {
        EDGES.of("Terms III", "the first of its steps (0 taking the BAR, 1 .. its FLIGHTS, then going down) that can't be");
        for (int flights = 0; flights <= 8; flights++) {
            for (int wrong = 0; wrong <= flights + 1; wrong++) {
                // Board 1 is far from all bars, and trick 1 is never good: an image brings what fly() would refuse.
                Watched x = Watched.made(STILL + "board q at 80;trick t ticks 1 arms 0 worth 5 when all;trick u ticks 1 arms 0 worth 5 when not all;");
                int[] image = new int[9 + 5 * flights];
                image[0] = 1;
                image[3] = wrong == 0 ? 1 : 0;
                image[6] = flights;
                for (int i = 0; i < flights; i++) {
                    image[7 + 5 * i] = i;
                    image[8 + 5 * i] = wrong == i + 1 ? 1 : 0;
                    image[9 + 5 * i] = 1 - i % 2;
                }
                image[7 + 5 * flights] = 20;
                image[8 + 5 * flights] = wrong == flights + 1 ? 1 : 0;
                EDGES.due("on", x.on(Checks.sealed(image)), true);
                EDGES.due("step " + wrong + " of " + flights + " flights", x.fails(0), wrong);
                image[3] = 1;
                EDGES.due("on", x.on(Checks.sealed(image)), true);
                EDGES.due("taking fails first", x.fails(0), 0);
            }
        }
        EDGES.of("Terms II", "done: how many FLIGHTS the flyer had in this ACT ahead of it; again: 1, if the one just ahead was by the same TRICK, else 0");
        for (int bits = 0; bits < 16; bits++) {
            // Trick 0 begins or goes on with itself, trick 1 never follows itself and is the second flight or a later one.
            Watched x = Watched.made(STILL + "trick t ticks 1 arms 0 worth 5 when done=0 or again=1;trick u ticks 1 arms 0 worth 5 when again=0 and done>0;");
            int[] image = new int[9 + 20];
            image[0] = 1;
            image[6] = 4;
            int due = NONE;
            for (int i = 0; i < 4; i++) {
                int trick = bits >> i & 1;
                image[7 + 5 * i] = i;
                image[8 + 5 * i] = trick;
                image[9 + 5 * i] = 1 - i % 2;
                boolean again = i > 0 && trick == (bits >> i - 1 & 1);
                boolean good = trick == 0 ? i == 0 || again : !again && i > 0;
                due = due == NONE && !good ? i + 1 : due;
            }
            image[27] = 20;
            EDGES.due("on", x.on(Checks.sealed(image)), true);
            EDGES.due("tricks by the bits of " + bits, x.fails(0), due);
            boolean well = x.take(0, 0, 0);
            for (int i = 0; i < 4; i++) {
                well = well && x.fly(i, bits >> i & 1, 1 - i % 2);
            }
            EDGES.due("told by hand", well, due == NONE);
            if (well) {
                EDGES.row("and booked", new int[] {x.down(20, 0) ? 1 : 0, x.shift() > 0 ? 1 : 0, x.book(0), x.book(400)}, 1, 1, 2, 3);
            }
        }
        EDGES.of("Terms III", "FAILS of an ACT of THE BILL, by how BARS go now");
        for (int reach = 4; reach <= 6; reach++) {
            Watched x = Watched.made(STILL + "trick t ticks 1 arms 5 worth 5 when all;");
            EDGES.due("plan", act(x, 0, 0, 4, 0, 8) && x.book(0) == 1, true);
            // Bar a or b goes by 4 and is off by its reach at even ticks.
            EDGES.due("change", x.change(0, 4, 0, reach), true);
            EDGES.due("taken " + reach + " off", x.fails(0), reach <= 5 ? NONE : 0);
            EDGES.due("change", x.change(0, 4, 0, 0) && x.change(1, 4, 3, reach), true);
            EDGES.due("caught " + reach + " off", x.fails(0), reach <= 5 ? NONE : 1);
            EDGES.due("change", x.change(1, 4, 0, reach), true);
            EDGES.due("down " + reach + " off", x.fails(0), reach <= 5 ? NONE : 2);
        }
        Watched x = Watched.made(STILL + "trick t ticks 1 arms 0 worth 5 when tick<20;");
        EDGES.due("plan", act(x, 0, 0, 4, 0, 8) && x.book(15) == 1, true);
        EDGES.row("at tick 19", new int[] {x.fails(0), x.book(16)}, NONE, NONE);
    }

    private static void failsNone() {
        EDGES.of("Promise 31", "NONE when it does not, or there is none such.");
        Watched x = Scenes.planDown();
        EDGES.row("of two", new int[] {x.fails(-1), x.fails(0), x.fails(1), x.fails(2), x.fails(Integer.MAX_VALUE), x.fails(Integer.MIN_VALUE)}, NONE, NONE, NONE, NONE, NONE, NONE);
        EDGES.due("change", x.change(0, 8, 4, 20), true);
        EDGES.row("both fail now", new int[] {x.fails(-1), x.fails(0), x.fails(1), x.fails(2)}, NONE, 0, 0, NONE);
        EDGES.due("unbook", x.unbook(), 1);
        EDGES.due("an act that went", x.fails(1), NONE);
        EDGES.due("of a new object", new Watched().fails(0), NONE);
        EDGES.stays("fails", Scenes::planDown, NONE, y -> y.fails(0));
    }

    /** An act on one bar that goes by 40: taken and down at tick 0, by a board that the bar is off for the phases due. */
    private static Watched swinging(int phase, int board, int place) {
        Watched x = Watched.made("bar a at " + place + " every 40 from " + phase + " reach 5;board p at " + board + ";bar b at 0 every 4 from 0 reach 0;");
        EDGES.due("plan", x.take(0, 0, 0) && x.down(0, 0) && x.book(0) == 1, true);
        return x;
    }

    private static void slackNumbers() {
        EDGES.of("Terms III", "SLACK of an ACT of THE BILL, by a BAR: the least number (1 .. 39) by which the BAR's PHASE grows (or falls");
        // At 5 it is for one phase of forty, 20: there it is 6 from the board at 11.
        for (int phase = 0; phase < 40; phase++) {
            if (phase == 20) {
                continue;
            }
            Watched x = swinging(phase, 11, 10);
            EDGES.row("from " + phase, new int[] {x.slack(0, 0, true), x.slack(0, 0, false), x.slack(0, 1, true), x.slack(0, 1, false)},
                    Math.floorMod(20 - phase, 40), Math.floorMod(phase - 20, 40), NONE, NONE);
        }
        Watched x = swinging(21, 11, 10);
        EDGES.row("39 and 1", new int[] {x.slack(0, 0, true), x.slack(0, 0, false)}, 39, 1);
        x = swinging(19, 11, 10);
        EDGES.row("1 and 39", new int[] {x.slack(0, 0, true), x.slack(0, 0, false)}, 1, 39);
        x = swinging(0, 10, 10);
        EDGES.row("never", new int[] {x.slack(0, 0, true), x.slack(0, 0, false)}, NONE, NONE);
    }

    private static void slackByPeriods() {
        EDGES.of("Terms III", "below 0 and above 39 by PERIODS");
        for (int period = 4; period <= 40; period++) {
            for (int phase = 0; phase < 40; phase += phase < 4 || phase > 34 ? 1 : 7) {
                Watched x = Watched.made("bar a at 60 every " + period + " from " + phase + " reach 60;board p at 60;board q at 200;");
                int tick = 0;
                while (!x.take(0, tick, 0)) {
                    tick++;
                    if (tick == 80) {
                        break;
                    }
                }
                if (tick == 80 || !x.down(tick, 0) || x.book(0) != 1) {
                    continue;
                }
                EDGES.row("every " + period + " from " + phase, new int[] {x.slack(0, 0, true), x.slack(0, 0, false)},
                        slackDue(period, phase, tick, 1), slackDue(period, phase, tick, -1));
            }
        }
        EDGES.stays("slack", Scenes::planDown, 1, y -> y.slack(0, 0, true));
        EDGES.stays("slack", Scenes::planDown, 1, y -> y.slack(1, 1, false));
        EDGES.stays("slack", Scenes::planDown, NONE, y -> y.slack(1, 2, false));
    }

    private static int slackDue(int period, int phase, int tick, int way) {
        for (int by = 1; by <= 39; by++) {
            int other = phase + way * by;
            while (other < 0) {
                other += period;
            }
            while (other > 39) {
                other -= period;
            }
            int s = (tick + other) % period;
            int where = 120 - 240 * Math.min(s, period - s) / period;
            if (Math.abs(where - 60) > 5) {
                return by;
            }
        }
        return NONE;
    }

    private static void slackNone() {
        EDGES.of("Promise 32", "NONE when there is none such, it FAILS as it is, or never.");
        int[][] wrong = {{-1, 0}, {2, 0}, {0, -1}, {0, 3}, {Integer.MAX_VALUE, 0}, {0, Integer.MIN_VALUE}};
        for (int[] w : wrong) {
            EDGES.stays("slack(" + w[0] + ", " + w[1] + ", true)", Scenes::planDown, NONE, x -> x.slack(w[0], w[1], true));
            EDGES.stays("slack(" + w[0] + ", " + w[1] + ", false)", Scenes::planDown, NONE, x -> x.slack(w[0], w[1], false));
        }
        Watched x = Scenes.planDown();
        EDGES.row("beside them", new int[] {x.slack(0, 0, true), x.slack(1, 0, false), x.slack(0, 1, true), x.slack(1, 2, true)}, 1, 1, 1, NONE);
        EDGES.due("change", x.change(0, 8, 1, 20), true);
        EDGES.row("it fails as it is", new int[] {x.fails(0), x.slack(0, 0, true), x.slack(0, 0, false), x.slack(0, 1, true), x.slack(0, 2, true)}, 0, NONE, NONE, NONE, NONE);
        EDGES.due("change", x.change(0, 8, 0, 20), true);
        EDGES.row("never, by a bar that it has nothing to do with", new int[] {x.slack(0, 2, true), x.slack(0, 2, false)}, NONE, NONE);
        EDGES.due("of a new object", new Watched().slack(0, 0, true), NONE);
    }

    private static void fillsUp() {
        EDGES.of("Promise 33", "FILLING: how many ACTS came");
        for (int there = 0; there <= 6; there++) {
            Watched x = Watched.made(STILL + "trick t ticks 3 arms 0 worth 5 when all;");
            EDGES.due("plan", act(x, 80, 0, -1, 0, 80), true);
            for (int i = 0; i < there; i++) {
                x.book(400);
            }
            EDGES.due("fill with " + there, x.fill(0, 0, 1, 80), 6 - there);
            EDGES.due("acts", x.has(4), 6);
            EDGES.due("fill once more", x.fill(0, 0, 1, 80), 0);
        }
        EDGES.of("Terms III", "again and again SHIFTED onto THE BILL by the least number by which it is GOOD and QUARRELS with none");
        Watched x = Watched.made(STILL + "trick t ticks 3 arms 0 worth 5 when all;");
        EDGES.due("plan", act(x, 0, 1, -1, 0, 9) && x.book(0) == 1, true);
        EDGES.due("fill", x.fill(0, 0, 1, 80), 5);
        // The best takes a at 0, flies at 1 and 2, and comes to b at 3: b is held up to 9.
        EDGES.row("shifts", shifts(x), 0, 7, 9, 11, 13, 15);
        EDGES.row("the best is the plan", new int[] {x.plan(0), x.plan(1), x.step(0, 0), x.plan(3), x.plan(5)}, 0, 0, 0, 3, 5);
        EDGES.row("worth", new int[] {x.bill(0), x.bill(1)}, 25, 18);
        x = Watched.made(Scenes.RIG);
        EDGES.due("fill", x.fill(0, 1, 1, 80), 6);
        EDGES.row("by eights", shifts(x), 0, 8, 16, 24, 32, 40);
    }

    private static void fillStays() {
        EDGES.of("Terms III", "if there are not 6 ACTS, the BEST is sought (THE PLAN, if there is one)");
        EDGES.stays("fill with 6", Scenes::full, 0, x -> x.fill(0, 1, 1, 80));
        EDGES.stays("fill with 6 where there is no best", Scenes::full, 0, x -> x.fill(0, 1, 0, 80));
        EDGES.stays("fill without a best", Scenes::planOpen, 0, x -> x.fill(0, 1, 0, 80));
        EDGES.stays("fill without a best", Scenes::planDown, 0, x -> x.fill(0, 1, 1, 11));
        EDGES.stays("fill without a best", Scenes::noPlan, 0, x -> x.fill(0, 1, 1, 11));
        Watched x = Scenes.full();
        x.unbook();
        EDGES.due("fill with 5", x.fill(0, 1, 1, 80), 1);
        EDGES.row("the best is the plan", new int[] {x.plan(3), x.plan(4), x.has(5), x.has(4)}, 12, 1, 1, 6);
        x = Scenes.planOpen();
        EDGES.due("fill", x.fill(0, 1, 1, 12), 4);
        EDGES.row("the plan that was at hand is gone", new int[] {x.plan(0), x.plan(3), x.plan(5)}, 0, 12, 40);
        EDGES.row("behind the two that were there", shifts(x), 0, 8, 16, 24, 32, 40);
    }

    private static void fillTillThereIsNone() {
        EDGES.of("Terms III", "till there is none, or there are 6");
        for (int last = 399; last <= 401; last++) {
            Watched x = Watched.made(STILL + "trick t ticks 2 arms 0 worth 5 when tick=0 or tick=200 or tick=" + last + ";");
            EDGES.due("fill", x.fill(0, 0, 1, 80), last <= 400 ? 3 : 2);
            EDGES.due("has", x.has(4), last <= 400 ? 3 : 2);
            if (last <= 400) {
                EDGES.row("shifts", shifts(x), 0, 200, last);
            } else {
                EDGES.row("shifts", shifts(x), 0, 200);
            }
            EDGES.due("none more", x.fill(0, 0, 1, 80), 0);
            EDGES.due("but without the flight", x.fill(0, 0, 0, 80), last <= 400 ? 3 : 4);
        }
        Watched x = Watched.made("bar a at 100 every 40 from 0 reach 60;bar b at 9 every 4 from 0 reach 0;board p at 165;board q at 35;");
        EDGES.due("fill", x.fill(0, 1, 0, 80), 6);
        EDGES.row("by rounds", shifts(x), 0, 40, 80, 120, 160, 200);
        for (int last = 318; last <= 320; last++) {
            x = Watched.made(STILL);
            EDGES.due("plan", act(x, 0, 0, -1, 0, 80), true);
            for (int i = 0; i < 4; i++) {
                x.book(81 * i);
            }
            EDGES.due("bar a is held up to " + (last + 80), x.book(last), 5);
            EDGES.due("an act of one tick", x.fill(0, 0, 0, 0), last <= 319 ? 1 : 0);
            EDGES.row("the plan takes a, though b is free", new int[] {x.plan(1), x.plan(3), x.has(4)}, 0, 0, last <= 319 ? 6 : 5);
        }
    }

    private static void fillRefused() {
        EDGES.of("Promise 33", "NONE when something can't be.");
        int[][] wrong = {{-1, 0, 1, 80}, {2, 0, 1, 80}, {0, -1, 1, 80}, {0, 2, 1, 80}, {0, 1, -1, 80}, {0, 1, 9, 80}, {0, 1, 1, -1}, {0, 1, 1, 81},
            {Integer.MAX_VALUE, 0, 1, 80}, {0, 1, Integer.MIN_VALUE, 80}, {0, 1, 1, Integer.MAX_VALUE}};
        for (int[] w : wrong) {
            String call = "fill(" + w[0] + ", " + w[1] + ", " + w[2] + ", " + w[3] + ")";
            EDGES.stays(call, Scenes::planOpen, NONE, x -> x.fill(w[0], w[1], w[2], w[3]));
            EDGES.stays(call + " with 6", Scenes::full, NONE, x -> x.fill(w[0], w[1], w[2], w[3]));
        }
        EDGES.row("beside them", new int[] {Scenes.noPlan().fill(0, 0, 0, 0), Scenes.noPlan().fill(1, 1, 8, 80), Scenes.noPlan().fill(1, 0, 1, 80)}, 6, 6, 6);
        EDGES.due("without boards", new Watched().fill(0, 0, 0, 0), NONE);
    }

    private static void billTogether() {
        EDGES.of("Promise 34", "All ACTS of THE BILL together: 0 their WORTH (as told), 1 the last tick at which one goes down (0 without), "
                + "2 the most flyers that are on BARS or in the air at one tick.");
        Watched x = Watched.made(STILL + "trick t ticks 3 arms 40 worth 1000-20*miss when all;");
        EDGES.row("without", new int[] {x.bill(0), x.bill(1), x.bill(2)}, 0, 0, 0);
        EDGES.due("plan", act(x, 0, 0, -1, 0, 0) && x.book(0) == 1, true);
        EDGES.row("an act of one tick", new int[] {x.bill(0), x.bill(1), x.bill(2)}, 0, 0, 1);
        EDGES.due("plan", act(x, 5, 0, 6, 0, 10) && x.book(0) == 2, true);
        EDGES.row("two that do not meet", new int[] {x.bill(0), x.bill(1), x.bill(2)}, 1000, 10, 1);
        EDGES.due("a third one that comes as the second goes down", x.book(5), 3);
        EDGES.row("at one tick", new int[] {x.bill(0), x.bill(1), x.bill(2)}, 2000, 15, 2);
        EDGES.row("a tick later", new int[] {x.unbook(), x.book(6), x.bill(1), x.bill(2)}, 2, 3, 16, 1);
        EDGES.due("plan", act(x, 7, 1, -1, 0, 7) && x.book(0) == 4, true);
        EDGES.row("beside one in the air", new int[] {x.bill(0), x.bill(1), x.bill(2)}, 2000, 16, 2);
        EDGES.due("change", x.change(1, 4, 0, 20), true);
        EDGES.row("as told", new int[] {x.bill(0), x.bill(1), x.bill(2)}, 2000, 16, 2);
        x = Watched.made(STILL);
        EDGES.due("plan", act(x, 0, 0, -1, 0, 80), true);
        for (int i = 1; i <= 6; i++) {
            EDGES.row("one more", new int[] {x.book(400 - 2 * i), x.bill(0), x.bill(1), x.bill(2)}, i, 0, 478, i);
        }
        EDGES.row("the last one goes", new int[] {x.unbook(), x.book(400), x.bill(1)}, 5, 6, 480);
        x = Watched.made(STILL + "trick t ticks 1 arms 0 worth 1000 when all;");
        x.best(0, 0, 8, 80);
        for (int i = 1; i <= 6; i++) {
            EDGES.row("eight of 1000", new int[] {x.book(9 * (6 - i)), x.bill(0), x.bill(1), x.bill(2)}, i, 8000 * i, 53, 1);
        }
    }

    private static void billOthers() {
        EDGES.of("Promise 34", "NONE for others.");
        Watched x = Scenes.full();
        EDGES.row("others", new int[] {x.bill(-1), x.bill(3), x.bill(4), x.bill(Integer.MAX_VALUE), x.bill(Integer.MIN_VALUE)}, NONE, NONE, NONE, NONE, NONE);
        EDGES.row("on an empty bill", new int[] {new Watched().bill(-1), new Watched().bill(3)}, NONE, NONE);
    }
}
