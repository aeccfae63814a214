/** The boundary cases of promises 8 to 13, 17 and 18, and of Terms II on bars: change, where, speed, round, flight, window, nearest, idle. */
public final class EdgeSwingTest {
    private static final Edges EDGES = new Edges();
    private static final int NONE = FlyingBars.NONE;
    private static final int NOWHERE = -1000000000;
    private static final String STILL = "bar a at 9 every 4 from 0 reach 0;bar b at 9 every 4 from 0 reach 0;";

    public static void main(String[] args) {
        changes();
        changeRefused();
        planAndBillStay();
        phaseGoesRound();
        lesserOne();
        placeAndReach();
        whereEdges();
        speedEdges();
        byABoard();
        rounds();
        flightEdges();
        flightNone();
        windowTicks();
        windowNone();
        nearests();
        nearestNone();
        idles();
        EDGES.finish();
    }

    private static String bar(String name, int place, int period, int phase, int reach) {
        return "bar " + name + " at " + place + " every " + period + " from " + phase + " reach " + reach + ";";
    }

    /** Where a bar is, told by stepping: from the highest place down for half a period and up again. */
    private static int whereDue(int place, int period, int phase, int reach, int tick) {
        int s = 0;
        for (int i = 0; i < tick + phase; i++) {
            s = s + 1 == period ? 0 : s + 1;
        }
        int d = s + s <= period ? s : period - s;
        int down = 0;
        while ((down + 1) * period <= 4 * reach * d) {
            down++;
        }
        return place + reach - down;
    }

    private static void changes() {
        EDGES.of("Promise 8", "A BAR goes by another PERIOD, PHASE, REACH from now on: true");
        int[][] cases = {{4, 0, 0}, {4, 39, 60}, {5, 38, 59}, {40, 0, 60}, {40, 39, 0}, {39, 1, 1}, {8, 8, 20}};
        for (int[] c : cases) {
            Watched x = Watched.made(bar("a", 100, 9, 2, 7) + bar("b", 200, 11, 3, 13));
            EDGES.due("change(1, " + c[0] + ", " + c[1] + ", " + c[2] + ")", x.change(1, c[0], c[1], c[2]), true);
            for (int tick = 0; tick < 45; tick++) {
                EDGES.due("where(1, " + tick + ")", x.where(1, tick), whereDue(200, c[0], c[1], c[2], tick));
                EDGES.due("the other bar goes as it went", x.where(0, tick), whereDue(100, 9, 2, 7, tick));
            }
        }
        Watched x = Watched.made(STILL + "board p at 9;trick t ticks 1 arms 0 worth 5 when all;");
        EDGES.row("as told", new int[] {x.best(0, 0, 1, 1), x.ways(0, 0, 1, 1), x.soonest(0, 0, 1, 1), x.reached(0, 0, 0),
            x.window(0, 0, 1, -1), x.idle(0), x.round()}, 5, 8, 1, 3, 120, 0, 1);
        EDGES.due("change", x.change(1, 4, 0, 60), true);
        // Bar b goes 69 9 -51 9 now.
        EDGES.row("by how it goes now", new int[] {x.best(0, 0, 1, 1), x.ways(0, 0, 1, 1), x.soonest(0, 0, 1, 1), x.reached(0, 0, 0),
            x.window(0, 0, 1, -1), x.idle(0), x.round()}, 5, 5, 1, 1, 60, 0, 4);
        EDGES.due("change", x.change(1, 4, 0, 0), true);
        EDGES.due("by how it goes now", x.ways(0, 0, 1, 1), 8);
    }

    private static void changeRefused() {
        EDGES.of("Promise 8", "false when something can't be.");
        int[][] wrong = {{-1, 8, 0, 5}, {3, 8, 0, 5}, {4, 8, 0, 5}, {Integer.MAX_VALUE, 8, 0, 5}, {Integer.MIN_VALUE, 8, 0, 5},
            {0, 3, 0, 5}, {0, 41, 0, 5}, {0, 0, 0, 5}, {0, -8, 0, 5}, {0, Integer.MAX_VALUE, 0, 5}, {0, 8, -1, 5}, {0, 8, 40, 5},
            {0, 8, Integer.MIN_VALUE, 5}, {0, 8, 0, -1}, {0, 8, 0, 61}, {0, 8, 0, Integer.MAX_VALUE}, {2, 8, 40, 5}, {2, 41, 3, 5}};
        for (int[] w : wrong) {
            EDGES.stays("change(" + w[0] + ", " + w[1] + ", " + w[2] + ", " + w[3] + ")", Scenes::planOpen, 0,
                    x -> x.change(w[0], w[1], w[2], w[3]) ? 1 : 0);
        }
        int[][] right = {{0, 4, 0, 5}, {0, 40, 0, 5}, {0, 8, 39, 5}, {0, 8, 0, 0}, {0, 8, 0, 60}, {2, 5, 1, 59}};
        for (int[] r : right) {
            EDGES.due("change(" + r[0] + ", " + r[1] + ", " + r[2] + ", " + r[3] + ")", Scenes.noPlan().change(r[0], r[1], r[2], r[3]), true);
        }
        EDGES.due("change without bars", new Watched().change(0, 8, 0, 5), false);
    }

    private static void planAndBillStay() {
        EDGES.of("Promise 8", "(THE PLAN and THE BILL stay.)");
        Watched x = Scenes.planOpen();
        x.image();
        String before = x.octets();
        EDGES.due("change", x.change(0, 8, 3, 60) && x.change(1, 5, 3, 60), true);
        EDGES.row("the plan", new int[] {x.plan(0), x.plan(1), x.plan(2), x.plan(3), x.plan(4), x.plan(5), x.has(5)},
                8, 0, 0, NONE, NONE, 7, 1);
        EDGES.row("its flight", new int[] {x.step(0, 0), x.step(0, 1), x.step(0, 2), x.step(0, 3)}, 14, 1, 1, 7);
        EDGES.row("the bill", new int[] {x.has(4), x.bill(0), x.bill(1), x.bill(2), x.at(0, 7), x.at(1, 16)}, 2, 80, 20, 2, 10, 1);
        x.image();
        EDGES.due("the image", x.octets(), before);
        EDGES.due("the plan goes on by how bars go now", x.down(16, 1), Math.abs(x.where(1, 16) - 170) <= 5);
    }

    private static void phaseGoesRound() {
        EDGES.of("Terms II", "s is t and PHASE, mod PERIOD");
        for (int period = 4; period <= 40; period++) {
            int[] phases = {0, 1, period - 1, Math.min(39, period), Math.min(39, period + 1), 38, 39};
            Watched x = Watched.made(bar("a", 100, period, 0, 60));
            for (int phase : phases) {
                EDGES.due("change", x.change(0, period, phase, 60), true);
                int[] ticks = {0, period - 1, period, period + 1, 2 * period, 999, 1000};
                for (int tick : ticks) {
                    EDGES.due("where at " + tick + " by " + period + " from " + phase, x.where(0, tick), whereDue(100, period, phase, 60, tick));
                }
            }
        }
    }

    private static void lesserOne() {
        EDGES.of("Terms II", "d is the lesser one of s and PERIOD less s; place and REACH less floor(4 times REACH times d / PERIOD)");
        int[] even = {120, 110, 100, 90, 80, 90, 100, 110, 120};
        int[] odd = {13, 12, 10, 8, 8, 10, 12, 13};
        int[] four = {160, 100, 40, 100, 160};
        int[] five = {160, 112, 64, 64, 112, 160};
        int[] little = {1, 1, 1, 1, 1, 1, 1, 1, 1, 1, 0, 0, 0, 0, 0, 0, 0, 0, 0, 0, -1, 0};
        Watched x = Watched.made(bar("a", 100, 8, 0, 20) + bar("b", 10, 7, 0, 3) + bar("c", 100, 4, 0, 60) + bar("d", 100, 5, 0, 60)
                + bar("e", 0, 40, 0, 1));
        int[][] rows = {even, odd, four, five, little};
        for (int bar = 0; bar < rows.length; bar++) {
            for (int tick = 0; tick < rows[bar].length; tick++) {
                EDGES.due("where(" + bar + ", " + tick + ")", x.where(bar, tick), rows[bar][tick]);
            }
        }
        for (int period = 4; period <= 40; period++) {
            x = Watched.made(bar("a", 61, period, 0, 37));
            for (int tick = 0; tick <= period; tick++) {
                EDGES.due("where at " + tick + " by " + period, x.where(0, tick), whereDue(61, period, 0, 37, tick));
            }
        }
    }

    private static void placeAndReach() {
        EDGES.of("Terms II", "place and REACH less floor(4 times REACH times d / PERIOD)");
        for (int reach = 0; reach <= 60; reach++) {
            Watched x = Watched.made(bar("a", 0, 40, 0, reach) + bar("b", 400, 39, 0, reach));
            EDGES.row("reach " + reach, new int[] {x.where(0, 0), x.where(0, 10), x.where(0, 20), x.where(0, 30), x.where(0, 40)},
                    reach, 0, -reach, 0, reach);
            for (int tick = 17; tick <= 22; tick++) {
                EDGES.due("an odd period, reach " + reach, x.where(1, tick), whereDue(400, 39, 0, reach, tick));
            }
        }
    }

    private static void whereEdges() {
        EDGES.of("Promise 9", "WHERE a BAR is at a tick (0 .. 1000); -10 to the 9 when there is none such.");
        Watched x = Watched.made(bar("a", 10, 7, 0, 3) + bar("b", 90, 7, 0, 3));
        EDGES.row("where", new int[] {x.where(0, -1), x.where(0, 0), x.where(0, 1), x.where(0, 999), x.where(0, 1000), x.where(0, 1001)},
                NOWHERE, 13, 12, 10, 12, NOWHERE);
        EDGES.row("where of bars", new int[] {x.where(-1, 0), x.where(0, 0), x.where(1, 0), x.where(2, 0)}, NOWHERE, 13, 93, NOWHERE);
        EDGES.row("far off", new int[] {x.where(Integer.MIN_VALUE, 0), x.where(Integer.MAX_VALUE, 0), x.where(0, Integer.MIN_VALUE),
            x.where(0, Integer.MAX_VALUE)}, NOWHERE, NOWHERE, NOWHERE, NOWHERE);
        EDGES.due("without bars", new Watched().where(0, 0), NOWHERE);
        x = Watched.made(eightBars());
        EDGES.row("eight bars", new int[] {x.where(7, 0), x.where(8, 0)}, 17, NOWHERE);
    }

    private static String eightBars() {
        StringBuilder text = new StringBuilder();
        for (int i = 0; i < 8; i++) {
            text.append(bar("b" + (char) ('a' + i), 10 + i, 4, 0, 0));
        }
        return text.toString();
    }

    private static void speedEdges() {
        EDGES.of("Promise 10", "Its SPEED; likewise.");
        Watched x = Watched.made(bar("a", 10, 7, 0, 3) + bar("b", 90, 7, 0, 3));
        EDGES.row("speed", new int[] {x.speed(0, -1), x.speed(0, 0), x.speed(0, 1), x.speed(0, 999), x.speed(0, 1000), x.speed(0, 1001)},
                NOWHERE, -1, -2, 2, 1, NOWHERE);
        EDGES.row("speed of bars", new int[] {x.speed(-1, 0), x.speed(1, 0), x.speed(2, 0)}, NOWHERE, -1, NOWHERE);
        EDGES.row("far off", new int[] {x.speed(Integer.MIN_VALUE, 0), x.speed(Integer.MAX_VALUE, 0), x.speed(0, Integer.MIN_VALUE),
            x.speed(0, Integer.MAX_VALUE)}, NOWHERE, NOWHERE, NOWHERE, NOWHERE);
        EDGES.due("without bars", new Watched().speed(0, 0), NOWHERE);
        EDGES.of("Terms II", "SPEED at t: where it is at t + 1 less where it is at t.");
        x = Watched.made(bar("a", 100, 8, 0, 20) + bar("b", 100, 4, 3, 60) + bar("c", 100, 4, 0, 0));
        int[] speeds = {-10, -10, -10, -10, 10, 10, 10, 10, -10};
        for (int tick = 0; tick < speeds.length; tick++) {
            EDGES.due("speed(0, " + tick + ")", x.speed(0, tick), speeds[tick]);
            EDGES.due("speed(2, " + tick + ")", x.speed(2, tick), 0);
        }
        EDGES.row("at the turns", new int[] {x.speed(1, 0), x.speed(1, 1), x.speed(1, 2), x.speed(1, 3), x.speed(1, 4)}, 60, -60, -60, 60, 60);
        EDGES.row("at 1000 by the place at 1001", new int[] {x.speed(1, 999), x.speed(1, 1000)}, 60, 60);
    }

    private static void byABoard() {
        EDGES.of("Terms II", "A BAR is BY a BOARD at a tick, if it is not more than 5 from its place.");
        for (int apart = -7; apart <= 7; apart++) {
            boolean by = Math.abs(apart) <= 5;
            Watched x = Watched.made("bar a at 100 every 4 from 0 reach 0;board p at " + (100 + apart) + ";board q at 100;");
            EDGES.due("take, " + apart + " apart", x.take(0, 0, 0), by);
            EDGES.row("acts, " + apart + " apart", new int[] {x.ways(0, 1, 0, 0), x.ways(1, 0, 0, 0), x.reached(0, 0, 0), x.best(0, 0, 0, 0),
                x.soonest(0, 0, 0, 0)}, by ? 1 : 0, by ? 1 : 0, by ? 1 : 0, by ? 0 : NONE, by ? 0 : NONE);
            EDGES.due("down, " + apart + " apart", x.take(1, 0, 0) && x.down(0, 0), by);
        }
        // 120 110 100 90 80: by a board at 105 at the ticks at which it is at 100 or 110, and so on.
        Watched x = Watched.made(bar("a", 100, 8, 0, 20) + "board p at 105;");
        for (int tick = 0; tick <= 8; tick++) {
            EDGES.due("take at " + tick, x.take(0, tick, 0), tick % 8 == 1 || tick % 8 == 2 || tick % 8 == 6 || tick % 8 == 7);
        }
    }

    private static void rounds() {
        EDGES.of("Promise 11", "The least number of ticks, 1 at least, behind which all BARS are where they were at any tick");
        for (int period = 4; period <= 40; period++) {
            Watched x = Watched.made(bar("a", 100, period, 39, 1));
            EDGES.due("round by " + period, x.round(), period);
            EDGES.due("change", x.change(0, period, 0, 60), true);
            EDGES.due("round by " + period, x.round(), period);
            EDGES.due("change", x.change(0, period, 0, 0), true);
            EDGES.due("a bar without reach is always where it was", x.round(), 1);
        }
        Watched x = Watched.made(bar("a", 100, 4, 0, 1) + bar("b", 100, 6, 0, 1) + bar("c", 100, 9, 0, 1));
        EDGES.due("4, 6 and 9", x.round(), 36);
        x.change(2, 8, 0, 1);
        EDGES.due("4, 6 and 8", x.round(), 24);
        x.change(1, 4, 3, 1);
        EDGES.due("4, 4 and 8", x.round(), 8);
        x.change(2, 4, 2, 1);
        EDGES.due("4, 4 and 4", x.round(), 4);
        EDGES.of("Promise 11", "(10 to the 9 at most)");
        EDGES.due("the greatest below", roundOf(22, 29, 31, 35, 37, 39), 998887890);
        EDGES.due("the next ones below", roundOf(11, 13, 16, 19, 23, 27, 37), 998856144);
        EDGES.due("the least above", roundOf(4, 17, 19, 25, 27, 31, 37), 1000000000);
        EDGES.due("the next one above", roundOf(7, 13, 17, 19, 23, 37, 40), 1000000000);
        EDGES.due("the greatest of all", roundOf(17, 23, 29, 31, 35, 37, 38, 39), 1000000000);
        EDGES.due("above 2 to the 32", roundOf(39, 38, 37, 35, 31, 29, 23, 17), 1000000000);
        EDGES.of("Promise 11", "1 without BARS.");
        EDGES.due("a new object", new Watched().round(), 1);
        EDGES.due("boards alone", Watched.made("board p at 7;").round(), 1);
        x = Watched.made(bar("a", 100, 4, 0, 1));
        x.rig("");
        EDGES.due("none any more", x.round(), 1);
    }

    private static int roundOf(int... periods) {
        StringBuilder text = new StringBuilder();
        for (int i = 0; i < periods.length; i++) {
            text.append(bar("b" + (char) ('a' + i), 100, periods[i], 0, 1));
        }
        return Watched.made(text.toString()).round();
    }

    private static void flightEdges() {
        EDGES.of("Promise 12", "A FLIGHT from a BAR at a tick (0 .. 1000) by a TRICK to a BAR, by so many done (0 .. 8) and again (or not): "
                + "0 MISS, 1 whether it is GOOD, 2 its WORTH.");
        Watched x = Watched.made(bar("a", 100, 8, 0, 20) + bar("b", 130, 8, 0, 0)
                + "trick t ticks 20 arms 40 worth 10*done+again when tick<999 and done<8;trick u ticks 3 arms 10 worth 60-miss when again=0;");
        EDGES.row("tick 0", new int[] {x.flight(0, 0, 1, 1, 0, false, 0), x.flight(0, 0, 1, 1, 0, false, 1), x.flight(0, 0, 1, 1, 0, false, 2)},
                40, 0, 20);
        // At tick 1000 bar a is at 120 and falls: 20 ticks later the flyer is at -80.
        EDGES.row("tick 1000", new int[] {x.flight(0, 1000, 0, 1, 8, true, 0), x.flight(0, 1000, 0, 1, 8, true, 1),
            x.flight(0, 1000, 0, 1, 8, true, 2)}, 210, 0, 81);
        EDGES.row("the test at its last tick", new int[] {x.flight(1, 998, 0, 0, 7, false, 1), x.flight(1, 999, 0, 0, 7, false, 1),
            x.flight(1, 998, 0, 0, 8, false, 1)}, 1, 0, 0);
        EDGES.row("again or not", new int[] {x.flight(0, 6, 1, 1, 1, false, 1), x.flight(0, 6, 1, 1, 1, true, 1), x.flight(0, 6, 1, 1, 0, true, 1)},
                1, 0, 0);
        EDGES.row("done 0 and 8", new int[] {x.flight(0, 6, 0, 1, 0, false, 2), x.flight(0, 6, 0, 1, 8, false, 2)}, 0, 80);
    }

    private static void flightNone() {
        EDGES.of("Promise 12", "NONE when something can't be, or for others.");
        int[][] wrong = {{-1, 6, 0, 1, 0, 0}, {3, 6, 0, 1, 0, 0}, {0, -1, 0, 1, 0, 0}, {0, 1001, 0, 1, 0, 0}, {0, 6, -1, 1, 0, 0},
            {0, 6, 2, 1, 0, 0}, {0, 6, 0, -1, 0, 0}, {0, 6, 0, 3, 0, 0}, {0, 6, 0, 0, 0, 0}, {1, 6, 0, 1, 0, 0}, {0, 6, 0, 1, -1, 0},
            {0, 6, 0, 1, 9, 0}, {0, 6, 0, 1, 0, -1}, {0, 6, 0, 1, 0, 3}, {0, Integer.MAX_VALUE, 0, 1, 0, 0}, {0, 6, 0, 1, Integer.MAX_VALUE, 0},
            {Integer.MIN_VALUE, 6, 0, 1, 0, 0}, {0, 6, Integer.MAX_VALUE, 1, 0, 0}, {0, 6, 0, Integer.MIN_VALUE, 0, 0}};
        Watched x = Scenes.noPlan();
        for (int[] w : wrong) {
            for (int what = 0; what < 3; what++) {
                int asked = w[5] == 0 ? what : w[5];
                EDGES.due("flight(" + w[0] + ", " + w[1] + ", " + w[2] + ", " + w[3] + ", " + w[4] + ", false, " + asked + ")",
                        x.flight(w[0], w[1], w[2], w[3], w[4], false, asked), NONE);
            }
        }
        int[][] right = {{0, 6, 0, 1, 0}, {2, 6, 0, 0, 0}, {0, 0, 0, 1, 0}, {0, 1000, 0, 1, 0}, {0, 6, 1, 2, 8}};
        for (int[] r : right) {
            for (int what = 0; what < 3; what++) {
                EDGES.due("flight that can be", x.flight(r[0], r[1], r[2], r[3], r[4], true, what) >= 0, true);
            }
        }
        EDGES.due("without bars", new Watched().flight(0, 0, 0, 1, 0, false, 0), NONE);
        EDGES.due("one bar alone", Watched.made(bar("a", 1, 4, 0, 0) + "trick t ticks 1 arms 1 worth 1 when all;").flight(0, 0, 0, 1, 0, false, 0), NONE);
    }

    private static void windowTicks() {
        EDGES.of("Terms III", "A WINDOW of a BAR, TRICK and other BAR: the ticks 0 .. 119 at which a FLIGHT would be GOOD (done, again 0).");
        String[] tests = {"tick<1", "tick<2", "tick>117", "tick>118", "tick>119", "tick=119", "tick=120", "all", "not all", "done=0", "done=1",
            "again=0", "again=1", "tick=0 or tick=119", "tick=60"};
        int[][] due = {{1, 0, 0}, {2, 0, 1}, {2, 118, 119}, {1, 119, 119}, {0, NONE, NONE}, {1, 119, 119}, {0, NONE, NONE}, {120, 0, 119},
            {0, NONE, NONE}, {120, 0, 119}, {0, NONE, NONE}, {120, 0, 119}, {0, NONE, NONE}, {2, 0, 119}, {1, 60, 60}};
        for (int i = 0; i < tests.length; i++) {
            Watched x = Watched.made(STILL + "trick t ticks 20 arms 0 worth 1 when " + tests[i] + ";");
            EDGES.due("how many ticks when " + tests[i], x.window(0, 0, 1, -1), due[i][0]);
            EDGES.due("its first when " + tests[i], x.window(0, 0, 1, 0), due[i][1]);
            EDGES.due("its last when " + tests[i], x.window(0, 0, 1, Math.max(0, due[i][0] - 1)), due[i][2]);
            EDGES.due("one behind when " + tests[i], x.window(0, 0, 1, due[i][0]), NONE);
        }
        EDGES.of("Promise 13", "How many ticks a WINDOW has (k NONE), or its k-th");
        Watched x = Watched.made(STILL + "trick t ticks 2 arms 0 worth 1 when tick>4 and tick<9;");
        EDGES.row("k from -2 on", new int[] {x.window(0, 0, 1, -2), x.window(0, 0, 1, -1), x.window(0, 0, 1, 0), x.window(0, 0, 1, 1),
            x.window(0, 0, 1, 2), x.window(0, 0, 1, 3), x.window(0, 0, 1, 4), x.window(0, 0, 1, 5)}, NONE, 4, 5, 6, 7, 8, NONE, NONE);
        EDGES.due("k of 119", Watched.made(STILL + "trick t ticks 2 arms 0 worth 1 when all;").window(0, 0, 1, 119), 119);
    }

    private static void windowNone() {
        EDGES.of("Promise 13", "NONE when there is none such.");
        int[][] wrong = {{-1, 0, 1}, {3, 0, 1}, {0, -1, 1}, {0, 2, 1}, {0, 0, -1}, {0, 0, 3}, {0, 0, 0}, {2, 0, 2},
            {Integer.MAX_VALUE, 0, 1}, {0, Integer.MIN_VALUE, 1}};
        Watched x = Scenes.noPlan();
        for (int[] w : wrong) {
            EDGES.due("window(" + w[0] + ", " + w[1] + ", " + w[2] + ", -1)", x.window(w[0], w[1], w[2], -1), NONE);
            EDGES.due("window(" + w[0] + ", " + w[1] + ", " + w[2] + ", 0)", x.window(w[0], w[1], w[2], 0), NONE);
        }
        EDGES.row("k of no kind", new int[] {x.window(0, 0, 1, -2), x.window(0, 0, 1, Integer.MIN_VALUE), x.window(0, 0, 1, Integer.MAX_VALUE),
            x.window(0, 0, 1, 30), x.window(0, 0, 1, 29)}, NONE, NONE, NONE, NONE, 119);
        EDGES.row("the last bar and the last trick", new int[] {x.window(2, 1, 0, -1), x.window(0, 1, 2, -1)}, 30, 30);
        EDGES.due("without bars", new Watched().window(0, 0, 1, -1), NONE);
    }

    private static void nearests() {
        EDGES.of("Terms III", "the tick 0 .. 119 with the least MISS, the first of like ones");
        Watched x = Watched.made(STILL + "trick t ticks 2 arms 0 worth 1 when all;");
        EDGES.row("all like", new int[] {x.nearest(0, 0, 1, false), x.nearest(0, 0, 1, true)}, 0, 0);
        // Bar b is at 40 and less, and nearest to 9 where it turns: by 36 at the ticks 12, 48, 84 and, too late, 120.
        x = Watched.made("bar a at 9 every 4 from 0 reach 0;" + bar("b", 40, 36, 5, 30) + "trick t ticks 1 arms 0 worth 1 when all;");
        EDGES.row("the first of like ones", new int[] {x.nearest(0, 0, 1, false), x.nearest(0, 0, 1, true), x.where(1, 13)}, 12, 1, 10);
        boolean last = false;
        boolean behind = false;
        for (int phase = 0; phase < 40; phase++) {
            x.change(1, 40, phase, 30);
            int least = 0;
            for (int tick = 1; tick < 40; tick++) {
                least = whereDue(40, 40, phase, 30, tick + 1) < whereDue(40, 40, phase, 30, least + 1) ? tick : least;
            }
            EDGES.due("nearest from " + phase, x.nearest(0, 0, 1, false), least);
            last |= least == 39;
            behind |= least == 0;
        }
        EDGES.due("at the first and the last tick of a round", last && behind, true);
        // One bar is highest once in 39 ticks, the other lowest once in 40: both at once once in 1560.
        for (int tick = 117; tick <= 122; tick++) {
            int found = lastTick(tick);
            EDGES.due("nearest when the least is at " + tick, found == tick, tick <= 119);
        }
        EDGES.of("Promise 17", "its tick (least false), or its MISS");
        x = Watched.made("bar a at 9 every 4 from 0 reach 0;bar b at 59 every 4 from 0 reach 0;trick t ticks 2 arms 40 worth 1 when not all;");
        EDGES.row("whether it is good or not", new int[] {x.nearest(0, 0, 1, false), x.nearest(0, 0, 1, true), x.nearest(1, 0, 0, true)}, 0, 50, 50);
    }

    /** The nearest tick of two bars that are nearest at that tick alone, of 0 .. 122. */
    private static int lastTick(int tick) {
        for (int phase = 0; phase < 39; phase++) {
            for (int other = 0; other < 40; other++) {
                if (leastAlone(phase, other, tick)) {
                    Watched x = Watched.made(bar("a", 0, 39, phase, 60) + bar("b", 200, 40, other, 60) + "trick t ticks 1 arms 0 worth 1 when all;");
                    return x.nearest(0, 0, 1, false);
                }
            }
        }
        throw new IllegalStateException("no two bars are nearest at " + tick);
    }

    private static int missAt(int phase, int other, int tick) {
        int left = whereDue(0, 39, phase, 60, tick);
        int speed = whereDue(0, 39, phase, 60, tick + 1) - left;
        return Math.abs(left + speed - whereDue(200, 40, other, 60, tick + 1));
    }

    private static boolean leastAlone(int phase, int other, int tick) {
        for (int t = 0; t <= 122; t++) {
            if (t != tick && missAt(phase, other, t) <= missAt(phase, other, tick)) {
                return false;
            }
        }
        return true;
    }

    private static void nearestNone() {
        EDGES.of("Promise 17", "NONE when there is none such.");
        int[][] wrong = {{-1, 0, 1}, {3, 0, 1}, {0, -1, 1}, {0, 2, 1}, {0, 0, -1}, {0, 0, 3}, {0, 0, 0}, {2, 0, 2},
            {Integer.MAX_VALUE, 0, 1}, {0, Integer.MIN_VALUE, 1}};
        Watched x = Scenes.noPlan();
        for (int[] w : wrong) {
            EDGES.due("nearest(" + w[0] + ", " + w[1] + ", " + w[2] + ", true)", x.nearest(w[0], w[1], w[2], true), NONE);
            EDGES.due("nearest(" + w[0] + ", " + w[1] + ", " + w[2] + ", false)", x.nearest(w[0], w[1], w[2], false), NONE);
        }
        EDGES.row("the last bar and the last trick", new int[] {x.nearest(2, 1, 0, true), x.nearest(0, 1, 2, false)}, 10, 6);
        EDGES.due("without bars", new Watched().nearest(0, 0, 1, true), NONE);
    }

    private static void idles() {
        EDGES.of("Terms III", "A TRICK is IDLE, if it has no tick in any WINDOW.");
        String[] tests = {"tick=0", "tick=119", "tick=120", "tick>119", "tick>118", "done=1", "again=1", "not all", "all"};
        int[] due = {0, 0, 1, 1, 0, 1, 1, 1, 0};
        for (int i = 0; i < tests.length; i++) {
            Watched x = Watched.made(STILL + "trick s ticks 1 arms 0 worth 1 when all;trick t ticks 20 arms 0 worth 1 when " + tests[i] + ";");
            EDGES.row("idle when " + tests[i], new int[] {x.idle(1), x.idle(0)}, due[i], 0);
        }
        // Bars 50 apart, but for one pair.
        for (int from = 0; from < 8; from += 7) {
            for (int arms = 4; arms <= 6; arms++) {
                StringBuilder text = new StringBuilder();
                for (int i = 0; i < 8; i++) {
                    int place = i == 7 - from ? 50 * from + 5 : 50 * i;
                    text.append(bar("b" + (char) ('a' + i), place, 4, 0, 0));
                }
                text.append("trick t ticks 1 arms ").append(arms).append(" worth 1 when all;");
                EDGES.due("one pair alone, arms " + arms, Watched.made(text.toString()).idle(0), arms < 5 ? 1 : 0);
            }
        }
        // A catcher on one bar alone tells flights from it and flights to it apart.
        for (int with = 0; with < 8; with += 7) {
            StringBuilder text = new StringBuilder();
            for (int i = 0; i < 8; i++) {
                text.append(bar("b" + (char) ('a' + i), i == 7 - with ? 50 * with : 50 * i, 4, 0, 0));
            }
            text.append("catcher b").append((char) ('a' + with)).append(";trick t ticks 1 arms 0 worth 1 when thrown=1;")
                    .append("trick u ticks 1 arms 0 worth 1 when caught=1;trick v ticks 1 arms 0 worth 1 when thrown=caught;");
            Watched x = Watched.made(text.toString());
            EDGES.row("from bar " + with + " alone, to it alone, between others", new int[] {x.idle(0), x.idle(1), x.idle(2)}, 0, 0, 1);
        }
        String one = bar("a", 9, 4, 0, 0) + "trick t ticks 1 arms 40 worth 1 when all;";
        EDGES.due("one bar alone", Watched.made(one).idle(0), 1);
        EDGES.due("no bar", Watched.made("trick t ticks 1 arms 40 worth 1 when all;").idle(0), 1);
        EDGES.of("Promise 18", "NONE when there is none such.");
        Watched x = Scenes.noPlan();
        EDGES.row("idle", new int[] {x.idle(-1), x.idle(0), x.idle(1), x.idle(2), x.idle(Integer.MAX_VALUE), x.idle(Integer.MIN_VALUE)},
                NONE, 0, 0, NONE, NONE, NONE);
        EDGES.due("without tricks", new Watched().idle(0), NONE);
    }
}
