/** The boundary cases of promises 14, 15, 16, 19, 20 and of Terms II and III on acts: best, soonest, ways, barred, reached. */
public final class EdgeSearchTest {
    private static final Edges EDGES = new Edges();
    private static final int NONE = FlyingBars.NONE;
    private static final String STILL = "bar a at 9 every 4 from 0 reach 0;bar b at 9 every 4 from 0 reach 0;board p at 9;";
    /** Bar a is by board l at ticks 0, 8 .., bar b by board r at 4, 12 ..; flights either way are good at ticks 6 and 7, 14 and 15 .. . */
    private static final String SIDES = "bar a at 100 every 8 from 0 reach 20;bar b at 150 every 8 from 4 reach 20;board l at 120;board r at 170;"
            + "trick hop ticks 2 arms 10 worth 50-miss when all;";

    public static void main(String[] args) {
        newRig();
        newSwing();
        fullRig();
        bestByFlights();
        bestByTick();
        bestIsThePlan();
        bestRefused();
        bestNone();
        mostWorth();
        endsSoonest();
        fewestFlights();
        firstRow();
        takesAndGoesDown();
        flightsOfAnAct();
        soonestEdges();
        soonestRefused();
        waysEdges();
        waysAtMost();
        waysRefused();
        barredEdges();
        barredRefused();
        reachedEdges();
        reachedRefused();
        EDGES.finish();
    }

    private static int[] plan(Watched x) {
        int flights = x.has(5);
        int[] row = new int[4 + 4 * flights];
        row[0] = x.plan(0);
        row[1] = x.plan(1);
        for (int i = 0; i < flights; i++) {
            for (int what = 0; what < 4; what++) {
                row[2 + 4 * i + what] = x.step(i, what);
            }
        }
        row[2 + 4 * flights] = x.plan(3);
        row[3 + 4 * flights] = x.plan(4);
        return row;
    }

    private static int[] asked(Watched x) {
        return new int[] {x.best(0, 0, 1, 9), x.plan(3), x.ways(0, 0, 1, 1), x.soonest(0, 0, 1, 8), x.reached(0, 0, 0), x.barred(0, 0, 1, 9, true, 0),
            x.barred(0, 0, 1, 9, false, 0), x.fill(0, 0, 1, 9)};
    }

    private static void newRig() {
        EDGES.of("Promise 4", "The tape (it goes) is THE RIG");
        String apart = "bar a at 9 every 4 from 0 reach 0;bar b at 12 every 4 from 0 reach 0;board p at 9;";
        Watched x = Watched.made(STILL + "trick t ticks 1 arms 2 worth 5 when all;");
        EDGES.row("no miss", asked(x), 5, 1, 8, 1, 3, 0, 0, 6);
        EDGES.due("rig", x.rig(apart + "trick t ticks 1 arms 2 worth 5 when all;"), 4);
        EDGES.row("a miss of 3", asked(x), 0, 0, 6, NONE, 3, 0, 0, 6);
        EDGES.due("rig", x.rig(apart + "trick t ticks 2 arms 3 worth 7 when again=0;"), 4);
        EDGES.row("by arms of 3", asked(x), 7, 2, 6, 2, 3, 0, 0, 6);
        EDGES.due("rig", x.rig(apart + "trick t ticks 2 arms 3 worth 7 when all;trick u ticks 1 arms 3 worth 9 when done=0;bar c at 90 every 4 from 0 reach 0;"), 6);
        EDGES.row("by two tricks", asked(x), 9, 1, 8, 1, 3, 9, 0, 6);
        EDGES.due("rig with a fault", x.rig("bar"), NONE);
        x.unbook();
        EDGES.row("all stays", asked(x), 9, 1, 8, 1, 3, 9, 0, 1);
    }

    private static void newSwing() {
        EDGES.of("Promise 8", "A BAR goes by another PERIOD, PHASE, REACH from now on");
        Watched x = Watched.made(STILL + "trick t ticks 1 arms 2 worth 5 when all;");
        EDGES.row("no miss", asked(x), 5, 1, 8, 1, 3, 0, 0, 6);
        // Bar b goes 12 9 6 9: it is by the board at all ticks, and flights to it or from it are good when they come down at odd ones.
        EDGES.due("change", x.change(1, 4, 0, 3), true);
        EDGES.row("a miss of 3 at even ticks", asked(x), 5, 1, 8, 1, 3, 0, 0, 0);
        EDGES.due("change", x.change(1, 4, 1, 3), true);
        EDGES.row("a miss of 3 at odd ticks", asked(x), 5, 2, 6, 2, 3, 0, 0, 0);
        EDGES.due("change", x.change(1, 4, 0, 0), true);
        EDGES.row("no miss", asked(x), 5, 1, 8, 1, 3, 0, 0, 0);
        EDGES.due("change that can't be", x.change(1, 4, 40, 60), false);
        EDGES.row("no miss", asked(x), 5, 1, 8, 1, 3, 0, 0, 0);
    }

    /** Eight bars and eight tricks, all good everywhere, and such that mind the trick just ahead. */
    private static void fullRig() {
        EDGES.of("Terms I", "8 TRICKS");
        StringBuilder bars = new StringBuilder("board p at 9;");
        StringBuilder all = new StringBuilder();
        StringBuilder unlike = new StringBuilder();
        for (int i = 0; i < 8; i++) {
            bars.append("bar b").append((char) ('a' + i)).append(" at 9 every 4 from 0 reach 0;");
            all.append("trick t").append((char) ('a' + i)).append(" ticks 1 arms 0 worth ").append(i).append(" when all;");
            unlike.append("trick t").append((char) ('a' + i)).append(" ticks 1 arms 0 worth ").append(i).append(" when again=0;");
        }
        Watched x = Watched.made(bars.toString() + all);
        EDGES.row("all", new int[] {x.ways(0, 0, 0, 80), x.ways(0, 0, 1, 1), x.ways(0, 0, 1, 80), x.best(0, 0, 8, 80), x.plan(3), x.reached(0, 0, 80), x.soonest(0, 0, 8, 8)},
                8 * 3321, 8 * (3 + 56), 8 * (3321 + 56 * 88560), 56, 8, 255, 8);
        x = Watched.made(bars.toString() + unlike);
        EDGES.row("none by the trick just ahead", new int[] {x.ways(0, 0, 1, 1), x.ways(0, 0, 2, 2), x.best(0, 0, 8, 80), x.step(0, 1), x.step(1, 1), x.step(7, 1), x.soonest(0, 0, 8, 8)},
                8 * (3 + 56), 8 * (6 + 56 * 4 + 56 * 49), 4 * 7 + 4 * 6, 6, 7, 7, 8);
        EDGES.row("without one of them", new int[] {x.barred(0, 0, 8, 80, true, 7), x.barred(0, 0, 8, 80, true, 0), x.barred(0, 0, 8, 80, false, 7)}, 4 * 6 + 4 * 5, 52, 52);
        EDGES.of("Terms II", "again: 1, if the one just ahead was by the same TRICK, else 0");
        for (int only = 0; only < 8; only++) {
            StringBuilder once = new StringBuilder();
            StringBuilder twice = new StringBuilder();
            for (int i = 0; i < 8; i++) {
                once.append("trick t").append((char) ('a' + i)).append(" ticks 1 arms 0 worth 5 when again=0 and ").append(i == only ? "all;" : "not all;");
                twice.append("trick t").append((char) ('a' + i)).append(" ticks 1 arms 0 worth 5 when ").append(i == only ? "done=0 or again=1;" : "again=1;");
            }
            x = Watched.made(bars.toString() + once);
            EDGES.row("trick " + only + " not twice", new int[] {x.soonest(0, 0, 1, 8), x.soonest(0, 0, 2, 8), x.best(0, 0, 8, 80), x.ways(0, 0, 8, 2)}, 1, NONE, 5, 8 * (6 + 7 * 4));
            x = Watched.made(bars.toString() + twice);
            EDGES.row("trick " + only + " again and again", new int[] {x.soonest(0, 0, 1, 8), x.soonest(0, 0, 2, 8), x.soonest(0, 0, 8, 8), x.best(0, 0, 8, 80), x.step(7, 1),
                x.ways(0, 0, 8, 2), x.barred(0, 0, 8, 80, true, only)}, 1, 2, 8, 40, only, 8 * (6 + 7 * 4 + 49), 0);
        }
        x = Watched.made(STILL + "bar c at 39 every 4 from 0 reach 0;trick t ticks 1 arms 40 worth 5 when again=1;trick u ticks 1 arms 40 worth 5 when again=1;");
        EDGES.row("the first flight is never one more", new int[] {x.soonest(0, 0, 0, 8), x.soonest(0, 0, 1, 8), x.best(0, 0, 8, 80), x.has(5), x.ways(0, 0, 8, 1), x.reached(0, 8, 80)},
                0, NONE, 0, 0, 6, 3);
        x = Watched.made(STILL + "bar c at 39 every 4 from 0 reach 0;trick t ticks 1 arms 0 worth 5 when done=0;trick u ticks 1 arms 40 worth 5 when again=1;");
        EDGES.row("nor is one by another trick", new int[] {x.soonest(0, 0, 1, 8), x.soonest(0, 0, 2, 8), x.best(0, 0, 8, 80), x.has(5), x.ways(0, 0, 8, 1), x.reached(0, 8, 80)},
                1, NONE, 5, 1, 8, 3);
        x = Watched.made("bar a at 9 every 4 from 0 reach 0;bar b at 39 every 4 from 0 reach 0;bar c at 69 every 4 from 0 reach 0;board p at 9;"
                + "trick t ticks 1 arms 30 worth 1 when done=0 or again=1;trick u ticks 1 arms 30 worth 1 when done=1 and again=1;");
        EDGES.row("reached by the same trick twice", new int[] {x.reached(0, 1, 80), x.reached(0, 2, 1), x.reached(0, 2, 2), x.barred(0, 0, 2, 80, true, 0)}, 3, 3, 7, 0);
    }

    private static void bestByFlights() {
        EDGES.of("Promise 14", "The BEST from a BOARD to a BOARD, with n FLIGHTS at most");
        Watched x = Watched.made(STILL + "trick t ticks 1 arms 0 worth 5 when all;");
        for (int n = 0; n <= 8; n++) {
            EDGES.due("best with " + n, x.best(0, 0, n, 80), 5 * n);
            EDGES.row("its flights and end", new int[] {x.has(5), x.plan(3)}, n, n);
        }
        x = Watched.made(SIDES);
        EDGES.row("from one side to the other", new int[] {x.best(0, 1, 0, 80), x.best(0, 1, 1, 80), x.has(5), x.best(0, 1, 2, 80), x.has(5),
            x.best(0, 1, 3, 80), x.has(5)}, NONE, 40, 1, 40, 1, 120, 3);
        EDGES.row("and back", new int[] {x.best(0, 0, 0, 80), x.best(0, 0, 1, 80), x.best(0, 0, 2, 80)}, 0, 0, 80);
    }

    private static void bestByTick() {
        EDGES.of("Promise 14", "that ends at tick by (0 .. 80) at most");
        Watched x = Watched.made(SIDES);
        EDGES.row("one flight", new int[] {x.best(0, 1, 1, 11), x.best(0, 1, 1, 12), x.plan(3), x.best(0, 1, 1, 13), x.plan(3)}, NONE, 40, 12, 40, 12);
        EDGES.row("three flights", new int[] {x.best(0, 1, 3, 27), x.best(0, 1, 3, 28), x.plan(3)}, 40, 120, 28);
        EDGES.row("at tick 0", new int[] {x.best(0, 0, 8, 0), x.plan(0), x.plan(3)}, 0, 0, 0);
        x = Watched.made(STILL + "trick t ticks 20 arms 0 worth 5 when all;");
        int[] bys = {0, 1, 19, 20, 21, 39, 40, 59, 60, 79, 80};
        for (int by : bys) {
            EDGES.due("best by " + by, x.best(0, 0, 8, by), 5 * (by / 20));
            EDGES.due("its end", x.plan(3), by / 20 * 20);
        }
        x = Watched.made(STILL + "trick t ticks 1 arms 0 worth 5 when tick>78;trick u ticks 1 arms 0 worth 7 when tick>79;");
        EDGES.row("a flight at 79 comes down at 80, one at 80 too late", new int[] {x.best(0, 0, 8, 79), x.best(0, 0, 8, 80), x.plan(3), x.step(0, 0)}, 0, 5, 80, 79);
    }

    private static void bestIsThePlan() {
        EDGES.of("Promise 14", "its WORTH, and it is THE PLAN");
        Watched x = Scenes.planOpen();
        EDGES.due("best", x.best(0, 1, 1, 80), 40);
        EDGES.row("the plan", plan(x), 0, 0, 6, 0, 1, 40, 12, 1);
        EDGES.due("its board", x.plan(2), 0);
        EDGES.due("it has gone down", x.down(12, 1), false);
        EDGES.due("it can be booked", x.book(0), 3);
        EDGES.due("best", x.best(1, 0, 1, 80), 40);
        EDGES.row("the plan", plan(x), 4, 1, 6, 0, 0, 40, 8, 0);
        EDGES.due("its board", x.plan(2), 1);
        EDGES.due("best without flights", x.best(1, 1, 0, 80), 0);
        EDGES.row("the plan", plan(x), 4, 1, 4, 1);
        x = Watched.made(STILL + "trick t ticks 1 arms 0 worth 1000*1000 when all;");
        EDGES.row("eight of 1000", new int[] {x.best(0, 0, 8, 80), x.plan(5), x.step(7, 3)}, 8000, 8000, 1000);
    }

    private static void bestRefused() {
        EDGES.of("Promise 14", "NONE when something can't be");
        int[][] wrong = {{-1, 0, 1, 80}, {2, 0, 1, 80}, {0, -1, 1, 80}, {0, 2, 1, 80}, {0, 1, -1, 80}, {0, 1, 9, 80}, {0, 1, 1, -1}, {0, 1, 1, 81},
            {Integer.MAX_VALUE, 0, 1, 80}, {0, Integer.MIN_VALUE, 1, 80}, {0, 1, Integer.MAX_VALUE, 80}, {0, 1, 1, Integer.MAX_VALUE},
            {0, 1, Integer.MIN_VALUE, 80}, {0, 1, 1, Integer.MIN_VALUE}, {0, 0, -1, 80}, {0, 0, 9, 80}, {0, 0, 1, -1}, {0, 0, 1, 81}, {1, 1, -1, 80}, {1, 1, 0, 81}};
        for (int[] w : wrong) {
            EDGES.stays("best(" + w[0] + ", " + w[1] + ", " + w[2] + ", " + w[3] + ")", Scenes::planOpen, NONE, x -> x.best(w[0], w[1], w[2], w[3]));
        }
        Watched x = Watched.made(SIDES);
        EDGES.row("beside them", new int[] {x.best(0, 0, 0, 0), x.best(1, 1, 8, 80), x.best(0, 1, 8, 79), x.best(1, 0, 7, 80)}, 0, 320, 280, 280);
        EDGES.due("without boards", new Watched().best(0, 0, 0, 0), NONE);
        EDGES.due("without bars", Watched.made("board p at 9;").best(0, 0, 8, 80), NONE);
    }

    private static void bestNone() {
        EDGES.of("Promise 14", "or there is none (THE PLAN stays)");
        EDGES.stays("best(0, 1, 0, 80)", Scenes::planOpen, NONE, x -> x.best(0, 1, 0, 80));
        EDGES.stays("best(0, 1, 1, 11)", Scenes::planOpen, NONE, x -> x.best(0, 1, 1, 11));
        EDGES.stays("best(1, 1, 8, 3)", Scenes::planDown, NONE, x -> x.best(1, 1, 8, 3));
        EDGES.stays("best(0, 1, 0, 80)", Scenes::noPlan, NONE, x -> x.best(0, 1, 0, 80));
        EDGES.due("a tick later there is one", Scenes.planDown().best(1, 1, 8, 4), 0);
    }

    private static void mostWorth() {
        EDGES.of("Terms III", "the BEST has the most WORTH together");
        Watched x = Watched.made(STILL + "trick t ticks 1 arms 0 worth 500 when done=0;trick u ticks 20 arms 0 worth 501 when done=0;");
        EDGES.due("one more, though it ends later", x.best(0, 0, 1, 80), 501);
        EDGES.row("by the other trick", plan(x), 0, 0, 0, 1, 1, 501, 20, 0);
        EDGES.due("by 19", x.best(0, 0, 1, 19), 500);
        x = Watched.made(STILL + "trick t ticks 2 arms 0 worth 999 when done=0;trick u ticks 1 arms 0 worth 125*(done+1) when done<8 and done+1>done;");
        // Eight by u bring 125 times 36, cut at 1000 each from the eighth on; t first and seven by u bring 999 less 125 more.
        EDGES.due("together", x.best(0, 0, 8, 80), 999 + 125 * 35);
        EDGES.row("t first", new int[] {x.step(0, 1), x.step(1, 1), x.has(5), x.plan(3)}, 0, 1, 8, 9);
        x = Watched.made(STILL + "trick t ticks 20 arms 0 worth 1 when tick=60;");
        EDGES.row("a worth of 1 at the end of all", new int[] {x.best(0, 0, 8, 80), x.plan(3)}, 1, 80);
        EDGES.row("not by 79", new int[] {x.best(0, 0, 8, 79), x.plan(3), x.has(5)}, 0, 0, 0);
    }

    private static void endsSoonest() {
        EDGES.of("Terms III", "of like ones the one that ends soonest");
        // Two by t end at 2 and bring what one by u brings at 3 (or 2, or 1).
        String two = "trick t ticks 1 arms 0 worth 5 when done=0 or again=1;";
        Watched x = Watched.made(STILL + two + "trick u ticks 3 arms 0 worth 10 when done=0;");
        EDGES.due("best", x.best(0, 0, 2, 80), 10);
        EDGES.row("sooner, though by more flights", plan(x), 0, 0, 0, 0, 1, 5, 1, 0, 0, 5, 2, 0);
        x = Watched.made(STILL + two + "trick u ticks 1 arms 0 worth 10 when done=0 and tick>0;");
        EDGES.due("best", x.best(0, 0, 2, 80), 10);
        EDGES.row("as soon, by fewer", plan(x), 0, 0, 1, 1, 1, 10, 2, 0);
        x = Watched.made(STILL + two + "trick u ticks 1 arms 0 worth 10 when done=0 and tick>1;");
        EDGES.due("best", x.best(0, 0, 2, 80), 10);
        EDGES.row("a tick later", plan(x), 0, 0, 0, 0, 1, 5, 1, 0, 0, 5, 2, 0);
        x = Watched.made("bar a at 9 every 4 from 0 reach 0;board p at 9;");
        EDGES.row("at the first tick", new int[] {x.best(0, 0, 0, 80), x.plan(0), x.plan(3)}, 0, 0, 0);
    }

    private static void fewestFlights() {
        EDGES.of("Terms III", "of these the one with the fewest FLIGHTS");
        Watched x = Watched.made(STILL + "trick t ticks 1 arms 0 worth 5 when done=0 or again=1;trick u ticks 2 arms 0 worth 10 when done=0;");
        EDGES.due("best", x.best(0, 0, 2, 80), 10);
        EDGES.row("one flight ahead of two", plan(x), 0, 0, 0, 1, 1, 10, 2, 0);
        x = Watched.made(STILL + "trick t ticks 1 arms 0 worth 0 when all;");
        EDGES.row("none ahead of one that ends later", new int[] {x.best(0, 0, 8, 80), x.has(5), x.plan(3)}, 0, 0, 0);
        // All acts from p to q end at tick 20, with 0 to 8 flights from the one bar to the other on the way.
        String fall = "bar a at 100 every 40 from 0 reach 60;bar b at 100 every 40 from 0 reach 60;board p at 165;board q at 35;";
        x = Watched.made(fall + "trick t ticks 1 arms 0 worth 0 when all;");
        EDGES.due("worth nothing", x.best(0, 1, 8, 80), 0);
        EDGES.row("none ahead of one that ends as soon", plan(x), 0, 0, 20, 1);
        x = Watched.made(fall + "trick t ticks 1 arms 0 worth 5-done when all;");
        EDGES.due("5, 4, 3, 2, 1 and nothing more", x.best(0, 1, 8, 80), 15);
        EDGES.row("five ahead of six and more", new int[] {x.has(5), x.plan(3), x.step(4, 0), x.step(4, 3)}, 5, 20, 4, 1);
        EDGES.of("Terms III", "of like ones the one that ends soonest; of these the one with the fewest FLIGHTS");
        x = Watched.made(STILL + "trick t ticks 1 arms 0 worth 1 when done<7;trick u ticks 10 arms 0 worth 7 when done=0;");
        EDGES.row("u and six of t", new int[] {x.best(0, 0, 7, 80), x.has(5), x.plan(3)}, 13, 7, 16);
        EDGES.row("seven of t by 9", new int[] {x.best(0, 0, 8, 9), x.has(5), x.plan(3)}, 7, 7, 7);
    }

    private static void firstRow() {
        EDGES.of("Terms III", "of these the first as a row: the tick and the BAR taken, then tick, TRICK, BAR of each FLIGHT");
        Watched x = Watched.made(STILL + "trick t ticks 1 arms 0 worth 5 when tick=4;");
        EDGES.due("best", x.best(0, 0, 1, 80), 5);
        EDGES.row("the first tick, the first bar", plan(x), 0, 0, 4, 0, 1, 5, 5, 0);
        // Bar a comes by board p at tick 1 alone, bar b is by it from 0 on: the tick goes ahead of the bar.
        x = Watched.made("bar a at 29 every 4 from 0 reach 20;bar b at 29 every 4 from 0 reach 0;bar c at 29 every 4 from 0 reach 0;board p at 29;"
                + "trick t ticks 1 arms 40 worth 5 when tick=4;");
        EDGES.due("best", x.best(0, 0, 1, 80), 5);
        EDGES.row("tick ahead of bar", plan(x), 0, 1, 4, 0, 0, 5, 5, 0);
        x = Watched.made(STILL + "trick t ticks 1 arms 0 worth 5 when tick=6 and done=0;trick u ticks 1 arms 0 worth 5 when tick>2 and tick<5 and done=0;"
                + "trick v ticks 1 arms 0 worth 7 when tick=7 and done=1;");
        EDGES.due("best", x.best(0, 0, 2, 80), 12);
        EDGES.row("a flight's tick ahead of its trick", plan(x), 0, 0, 3, 1, 1, 5, 7, 2, 0, 7, 8, 0);
        String three = "bar a at 9 every 4 from 0 reach 0;bar b at 9 every 4 from 0 reach 0;bar c at 9 every 4 from 0 reach 0;catcher b;board p at 9;";
        x = Watched.made(three + "trick t ticks 1 arms 0 worth 5 when caught=0 and thrown=0 and tick=4;trick u ticks 1 arms 0 worth 5 when tick=4;");
        EDGES.due("best", x.best(0, 0, 1, 80), 5);
        EDGES.row("a trick ahead of the bar to which it goes", plan(x), 0, 0, 4, 0, 2, 5, 5, 0);
        x = Watched.made(three + "trick t ticks 1 arms 0 worth 5 when done=0 and tick=4;");
        EDGES.due("best", x.best(0, 0, 1, 80), 5);
        EDGES.row("the first bar to which it can go", plan(x), 0, 0, 4, 0, 1, 5, 5, 0);
        x = Watched.made(three + "trick t ticks 2 arms 0 worth 5 when tick=4 or tick=9;trick u ticks 2 arms 0 worth 5 when tick=4 or tick=9;");
        EDGES.due("best", x.best(0, 0, 2, 80), 10);
        EDGES.row("of each flight", plan(x), 0, 0, 4, 0, 1, 5, 9, 0, 0, 5, 11, 0);
        x = Watched.made(three + "trick t ticks 1 arms 0 worth 5 when again=0 and done<2;trick u ticks 1 arms 0 worth 5 when again=0 and done<2;");
        EDGES.due("best", x.best(0, 0, 2, 80), 10);
        EDGES.row("by turns", plan(x), 0, 0, 0, 0, 1, 5, 1, 1, 0, 5, 2, 0);
    }

    private static void takesAndGoesDown() {
        EDGES.of("Terms II", "at a tick (0 .. 80) the flyer on a BOARD takes a BAR that is BY it");
        // Bar a is by board p at one tick of 40, board q at the one half a round later.
        String text = "bar a at 100 every 40 from PHASE reach 60;board p at 165;board q at 35;";
        Watched x = Watched.made(text.replace("PHASE", "0"));
        EDGES.row("taken at 0, 40 and 80", new int[] {x.ways(0, 0, 0, 0), x.ways(0, 0, 0, 39), x.ways(0, 0, 0, 40), x.ways(0, 0, 0, 79), x.ways(0, 0, 0, 80)},
                1, 1, 3, 3, 6);
        EDGES.row("down half a round later", new int[] {x.ways(0, 1, 0, 19), x.ways(0, 1, 0, 20), x.ways(0, 1, 0, 59), x.ways(0, 1, 0, 60), x.ways(0, 1, 0, 80)},
                0, 1, 1, 3, 3);
        x = Watched.made(text.replace("PHASE", "39"));
        EDGES.row("taken at 1 and 41", new int[] {x.ways(0, 0, 0, 0), x.ways(0, 0, 0, 1), x.ways(0, 0, 0, 80)}, 0, 1, 3);
        x = Watched.made("bar a at 100 every 39 from 37 reach 60;board p at 165;");
        EDGES.row("taken at 2, 41 and 80", new int[] {x.ways(0, 0, 0, 79), x.ways(0, 0, 0, 80), x.soonest(0, 0, 0, 0)}, 3, 6, 2);
        EDGES.of("Terms II", "then, at a tick not below the last coming, and not above 80, it goes down on a BOARD that the BAR is BY");
        x = Watched.made(STILL + "trick t ticks 7 arms 0 worth 5 when tick=3;");
        EDGES.row("not below the last coming", new int[] {x.soonest(0, 0, 1, 1), x.best(0, 0, 1, 9), x.best(0, 0, 1, 10), x.plan(3)}, 10, 0, 5, 10);
        EDGES.due("down at the coming and a tick later", x.ways(0, 0, 1, 11) - x.ways(0, 0, 0, 11), 2 * 4 * 2);
        EDGES.due("down up to 80", x.ways(0, 0, 1, 80) - x.ways(0, 0, 0, 80), 2 * 4 * 71);
    }

    private static void flightsOfAnAct() {
        EDGES.of("Terms II", "then FLIGHTS, each at a tick not below that at which the flyer came to the BAR (0 to 8 of them)");
        Watched x = Watched.made(STILL + "trick t ticks 3 arms 0 worth 5 when tick=3*done;");
        for (int n = 0; n <= 8; n++) {
            EDGES.row("each at the tick of its coming, " + n, new int[] {x.best(0, 0, n, 80), x.plan(3), x.soonest(0, 0, n, n)}, 5 * n, 3 * n, 3 * n);
        }
        x = Watched.made(STILL + "trick t ticks 3 arms 0 worth 5 when done=0 and tick=4 or done=1 and tick<7;");
        EDGES.row("a second one before the flyer came", new int[] {x.best(0, 0, 8, 80), x.soonest(0, 0, 2, 8)}, 5, NONE);
        x = Watched.made(STILL + "trick t ticks 3 arms 0 worth 5 when done=0 and tick=4 or done=1 and tick<8;");
        EDGES.row("at the tick at which it came", new int[] {x.best(0, 0, 8, 80), x.soonest(0, 0, 2, 8), x.step(1, 0)}, 10, 10, 7);
        EDGES.of("Terms II", "All FLIGHTS must be GOOD (and come down at tick 80 at most).");
        x = Watched.made(STILL + "trick t ticks 20 arms 0 worth 5 when tick=60;trick u ticks 20 arms 0 worth 7 when tick=61;");
        EDGES.row("at 80, not at 81", new int[] {x.best(0, 0, 8, 80), x.plan(3), x.soonest(0, 0, 1, 8), x.ways(0, 0, 1, 80) - x.ways(0, 0, 0, 80)}, 5, 80, 80, 2 * 61);
        x = Watched.made("bar a at 9 every 4 from 0 reach 0;bar b at 13 every 4 from 0 reach 0;board p at 9;trick t ticks 1 arms 3 worth 5 when all;");
        EDGES.due("a miss of 4 with arms of 3", x.best(0, 0, 8, 80), 0);
        x = Watched.made("bar a at 9 every 4 from 0 reach 0;bar b at 13 every 4 from 0 reach 0;board p at 9;trick t ticks 1 arms 4 worth 5 when all;");
        EDGES.due("a miss of 4 with arms of 4", x.best(0, 0, 8, 80), 40);
        // From a to d it goes by c for nothing; by b it would be worth more, but no first flight goes there.
        x = Watched.made("bar a at 100 every 4 from 0 reach 0;bar b at 110 every 4 from 0 reach 0;bar c at 111 every 4 from 0 reach 0;bar d at 121 every 4 from 0 reach 0;"
                + "catcher b;board p at 95;board q at 126;trick t ticks 1 arms 11 worth 1 when done=1 and thrown=1;trick u ticks 1 arms 11 worth 0 when caught=0;");
        EDGES.due("best", x.best(0, 1, 2, 80), 0);
        EDGES.row("good ones alone", plan(x), 0, 0, 0, 1, 2, 0, 1, 1, 3, 0, 2, 1);
        x = Watched.made("bar a at 9 every 4 from 0 reach 0;board p at 9;trick t ticks 1 arms 40 worth 5 when all;");
        EDGES.row("never to the bar itself", new int[] {x.best(0, 0, 8, 80), x.soonest(0, 0, 1, 8), x.ways(0, 0, 8, 1)}, 0, NONE, 3);
    }

    private static void soonestEdges() {
        EDGES.of("Terms III", "The SOONEST has m FLIGHTS or more (n at most): the least tick at which one ends.");
        Watched x = Watched.made(STILL + "trick t ticks 3 arms 0 worth 5 when all;");
        for (int m = 0; m <= 8; m++) {
            EDGES.due("m " + m + " to 8", x.soonest(0, 0, m, 8), 3 * m);
            EDGES.due("m " + m + " to m", x.soonest(0, 0, m, m), 3 * m);
            EDGES.due("m " + m + " to one less", x.soonest(0, 0, m, m - 1), NONE);
            EDGES.due("from none to " + m, x.soonest(0, 0, 0, m), 0);
        }
        x = Watched.made(SIDES);
        EDGES.row("from side to side", new int[] {x.soonest(0, 1, 0, 0), x.soonest(0, 1, 0, 1), x.soonest(0, 1, 1, 1), x.soonest(0, 1, 1, 8),
            x.soonest(0, 1, 2, 2), x.soonest(0, 1, 2, 3), x.soonest(0, 1, 2, 8), x.soonest(0, 1, 3, 3)}, NONE, 12, 12, 12, NONE, 28, 28, 28);
        x = Watched.made(STILL + "trick t ticks 20 arms 0 worth 5 when all;");
        EDGES.row("at tick 80, and behind it", new int[] {x.soonest(0, 0, 4, 8), x.soonest(0, 0, 5, 8)}, 80, NONE);
        x = Watched.made(STILL + "trick t ticks 1 arms 0 worth 5 when again=0 and tick=done;trick u ticks 1 arms 0 worth 5 when done=1 and tick=1;");
        EDGES.row("by the trick of the flight just ahead", new int[] {x.soonest(0, 0, 1, 8), x.soonest(0, 0, 2, 8), x.soonest(0, 0, 3, 8), x.soonest(0, 0, 4, 8)},
                1, 2, 3, NONE);
    }

    private static void soonestRefused() {
        EDGES.of("Promise 15", "NONE when something can't be, or there is none.");
        int[][] wrong = {{-1, 0, 0, 8}, {2, 0, 0, 8}, {0, -1, 0, 8}, {0, 2, 0, 8}, {0, 0, -1, 8}, {0, 0, 9, 8}, {0, 0, 0, -1}, {0, 0, 0, 9}, {0, 0, 9, 9},
            {0, 0, 2, 1}, {0, 0, 8, 7}, {0, 0, Integer.MIN_VALUE, 8}, {0, 0, 0, Integer.MAX_VALUE}, {Integer.MAX_VALUE, 0, 0, 8}};
        for (int[] w : wrong) {
            EDGES.stays("soonest(" + w[0] + ", " + w[1] + ", " + w[2] + ", " + w[3] + ")", Scenes::planOpen, NONE, x -> x.soonest(w[0], w[1], w[2], w[3]));
        }
        EDGES.stays("soonest", Scenes::planOpen, 12, x -> x.soonest(0, 1, 1, 8));
        EDGES.stays("soonest", Scenes::planDown, 24, x -> x.soonest(0, 0, 8, 8));
        EDGES.due("without boards", new Watched().soonest(0, 0, 0, 0), NONE);
        EDGES.due("without bars", Watched.made("board p at 9;").soonest(0, 0, 0, 8), NONE);
    }

    private static void waysEdges() {
        EDGES.of("Terms III", "WAYS: how many ACTS there are");
        Watched x = Watched.made(STILL + "trick t ticks 1 arms 0 worth 5 when all;");
        for (int n = 0; n <= 3; n++) {
            for (int by = 0; by <= 6; by++) {
                EDGES.due("ways with " + n + " by " + by, x.ways(0, 0, n, by), stillWays(n, by));
            }
        }
        EDGES.row("at the ends", new int[] {x.ways(0, 0, 0, 0), x.ways(0, 0, 8, 0), x.ways(0, 0, 0, 80), x.ways(0, 0, 1, 80), x.ways(0, 0, 2, 80)},
                2, 2, 2 * 3321, (int) stillWays(1, 80), (int) stillWays(2, 80));
        x = Watched.made(STILL + "trick t ticks 1 arms 0 worth 5 when tick=0;trick u ticks 1 arms 0 worth 5 when tick=0;");
        EDGES.due("by either trick", x.ways(0, 0, 8, 1), 2 * 3 + 2 * 2);
        x = Scenes.noPlan();
        EDGES.row("none", new int[] {x.ways(0, 1, 0, 80), x.ways(1, 1, 8, 3), x.ways(1, 1, 8, 4)}, 0, 0, 2);
    }

    /** Two still bars, flights of one tick: the ticks of an act of k flights are k + 2 of by + 2. */
    private static long stillWays(int n, int by) {
        long all = 0;
        for (int k = 0; k <= n; k++) {
            long choose = 1;
            for (int i = 0; i < k + 2; i++) {
                choose = choose * Math.max(0, by + 2 - i) / (i + 1);
            }
            all += 2 * choose;
        }
        return all;
    }

    private static void waysAtMost() {
        EDGES.of("Terms III", "(10 to the 9 at most)");
        // Bar a is taken at tick 0 alone; a first flight at tick 0 goes to b or c by five tricks, each later one from the one to
        // the other by five tricks at two ticks: ten ways each. Of board q b and c are nine ticks long: 10 * 11111111 * 9
        // acts with flights; bar a is there for as many ticks as its period makes it.
        String text = "bar a at 95 every PERIOD from 0 reach 16;bar b at 100 every 40 from 0 reach 10;bar c at 100 every 40 from 0 reach 10;"
                + "catcher b;catcher c;board p at 116;board q at 89;";
        StringBuilder tricks = new StringBuilder();
        for (int i = 0; i < 5; i++) {
            tricks.append("trick t").append((char) ('a' + i)).append(" ticks 1 arms 40 worth 1 when caught=1 and (tick+1)/2=done;");
        }
        int[][] cases = {{25, 8}, {38, 9}, {26, 10}, {35, 11}, {30, 12}};
        for (int[] c : cases) {
            Watched x = Watched.made(text.replace("PERIOD", "" + c[0]) + tricks);
            EDGES.due("ways without flights by " + c[0], x.ways(0, 1, 0, 24), c[1]);
            EDGES.due("ways with seven by " + c[0], x.ways(0, 1, 7, 24), c[1] + 9 * 11111110);
            EDGES.due("ways with eight by " + c[0], x.ways(0, 1, 8, 24), Math.min(1000000000, 999999990 + c[1]));
        }
        Watched x = Watched.made(STILL + "trick t ticks 1 arms 0 worth 5 when all;");
        for (int by = 20; by <= 80; by += 3) {
            for (int n = 4; n <= 8; n++) {
                EDGES.due("ways with " + n + " by " + by, x.ways(0, 0, n, by), Math.min(1000000000, stillWays(n, by)));
            }
        }
    }

    private static void waysRefused() {
        EDGES.of("Promise 16", "WAYS; NONE when something can't be.");
        int[][] wrong = {{-1, 0, 1, 80}, {2, 0, 1, 80}, {0, -1, 1, 80}, {0, 2, 1, 80}, {0, 1, -1, 80}, {0, 1, 9, 80}, {0, 1, 1, -1}, {0, 1, 1, 81},
            {Integer.MIN_VALUE, 0, 1, 80}, {0, 1, Integer.MAX_VALUE, 80}, {0, 1, 1, Integer.MIN_VALUE}};
        for (int[] w : wrong) {
            EDGES.stays("ways(" + w[0] + ", " + w[1] + ", " + w[2] + ", " + w[3] + ")", Scenes::planOpen, NONE, x -> x.ways(w[0], w[1], w[2], w[3]));
        }
        EDGES.stays("ways", Scenes::planOpen, 0, x -> x.ways(0, 1, 0, 80));
        EDGES.due("without boards", new Watched().ways(0, 0, 0, 0), NONE);
        EDGES.due("without bars", Watched.made("board p at 9;").ways(0, 0, 8, 80), 0);
    }

    private static void barredEdges() {
        EDGES.of("Terms III", "BARRED: the WORTH of the BEST, were a BAR not there (no flyer takes it, none flies to it), or a TRICK.");
        // Bar a is by p, bar d by q; from a to d it goes by b (worth 3) or by c (worth 2), or by both and back.
        String text = "bar a at 100 every 4 from 0 reach 0;bar b at 110 every 4 from 0 reach 0;bar c at 111 every 4 from 0 reach 0;"
                + "bar d at 121 every 4 from 0 reach 0;board p at 95;board q at 126;"
                + "trick t ticks 1 arms 10 worth 3 when done=0 and gap=10;trick u ticks 1 arms 11 worth 2 when done=0 and gap=11;"
                + "trick v ticks 1 arms 11 worth 4 when done=1 and gap>9;";
        Watched x = Watched.made(text);
        EDGES.row("with all", new int[] {x.best(0, 1, 2, 80), x.step(0, 2), x.step(1, 2)}, 7, 1, 3);
        EDGES.row("without a bar", new int[] {x.barred(0, 1, 2, 80, false, 0), x.barred(0, 1, 2, 80, false, 1), x.barred(0, 1, 2, 80, false, 2),
            x.barred(0, 1, 2, 80, false, 3)}, NONE, 6, 7, NONE);
        EDGES.row("without a trick", new int[] {x.barred(0, 1, 2, 80, true, 0), x.barred(0, 1, 2, 80, true, 1), x.barred(0, 1, 2, 80, true, 2)}, 6, 7, NONE);
        EDGES.row("by ticks", new int[] {x.barred(0, 1, 2, 1, false, 1), x.barred(0, 1, 2, 2, false, 1), x.barred(0, 1, 1, 80, false, 1)}, NONE, 6, NONE);
        EDGES.row("the best is as it was", new int[] {x.plan(5), x.best(0, 1, 2, 80), x.ways(0, 1, 2, 2)}, 7, 7, 2);
        x = Watched.made(STILL + "trick t ticks 1 arms 0 worth 5 when all;");
        EDGES.row("a bar not taken and not flown to", new int[] {x.barred(0, 0, 8, 80, false, 0), x.barred(0, 0, 8, 80, false, 1), x.barred(0, 0, 0, 0, false, 0)}, 0, 0, 0);
        EDGES.due("the only trick", x.barred(0, 0, 8, 80, true, 0), 0);
        EDGES.due("a bar alone", Watched.made("bar a at 9 every 4 from 0 reach 0;board p at 9;").barred(0, 0, 8, 80, false, 0), NONE);
        EDGES.of("Promise 19", "(THE PLAN stays.)");
        EDGES.stays("barred", Scenes::planOpen, 40, y -> y.barred(0, 1, 1, 80, false, 1));
        EDGES.stays("barred", Scenes::planDown, 7, y -> y.barred(0, 1, 1, 80, true, 0));
        EDGES.stays("barred", Scenes::noPlan, 40, y -> y.barred(0, 1, 1, 80, true, 1));
    }

    private static void barredRefused() {
        EDGES.of("Promise 19", "NONE when something can't be, or there is none.");
        int[][] wrong = {{-1, 0, 1, 80, 0, 2}, {2, 0, 1, 80, 0, 2}, {0, -1, 1, 80, 0, 2}, {0, 2, 1, 80, 0, 2}, {0, 0, -1, 80, 0, 2}, {0, 0, 9, 80, 0, 2},
            {0, 0, 1, -1, 0, 2}, {0, 0, 1, 81, 0, 2}, {0, 0, -1, 80, 1, 1}, {0, 0, 9, 80, 1, 1}, {0, 0, 1, -1, 1, 1}, {0, 0, 1, 81, 1, 1}, {0, 0, 1, 80, 0, -1}, {0, 0, 1, 80, 0, 3}, {0, 0, 1, 80, 1, -1}, {0, 0, 1, 80, 1, 2},
            {0, 0, 1, 80, 0, Integer.MAX_VALUE}, {0, 0, 1, 80, 1, Integer.MIN_VALUE}, {0, 1, 1, 80, 0, 0}, {0, 1, 0, 80, 1, 0}, {0, 1, 1, 11, 0, 1}};
        for (int[] w : wrong) {
            EDGES.stays("barred(" + w[0] + ", " + w[1] + ", " + w[2] + ", " + w[3] + ", " + (w[4] == 1) + ", " + w[5] + ")", Scenes::planOpen, NONE,
                    x -> x.barred(w[0], w[1], w[2], w[3], w[4] == 1, w[5]));
        }
        Watched x = Scenes.noPlan();
        EDGES.row("the last ones", new int[] {x.barred(0, 1, 1, 80, false, 2), x.barred(0, 1, 1, 80, true, 1), x.barred(0, 1, 1, 12, false, 2)}, 40, 40, 40);
        EDGES.row("beside them", new int[] {x.barred(0, 0, 0, 80, false, 2), x.barred(0, 0, 8, 0, false, 2), x.barred(0, 0, 0, 0, true, 1), x.barred(1, 1, 0, 80, true, 0)}, 0, 0, 0, 0);
        EDGES.due("without boards", new Watched().barred(0, 0, 0, 0, false, 0), NONE);
    }

    private static void reachedEdges() {
        EDGES.of("Terms III", "REACHED from a BOARD with n FLIGHTS at most, by a tick: BARS to which a flyer may come so.");
        StringBuilder text = new StringBuilder("board p at 5;board q at 145;");
        for (int i = 0; i < 8; i++) {
            text.append("bar b").append((char) ('a' + i)).append(" at ").append(20 * i).append(" every 4 from 0 reach 0;");
        }
        text.append("trick t ticks 5 arms 20 worth 1 when all;");
        Watched x = Watched.made(text.toString());
        for (int n = 0; n <= 8; n++) {
            EDGES.due("up with " + n, x.reached(0, n, 80), (2 << Math.min(n, 7)) - 1);
            EDGES.due("down with " + n, x.reached(1, n, 80), 255 & 255 << Math.max(0, 7 - n));
        }
        int[] bys = {0, 4, 5, 6, 9, 10, 14, 15, 34, 35, 36, 80};
        for (int by : bys) {
            EDGES.due("by " + by, x.reached(0, 8, by), (2 << Math.min(by / 5, 7)) - 1);
        }
        x = Scenes.noPlan();
        EDGES.row("of the two sides", new int[] {x.reached(0, 0, 0), x.reached(0, 1, 7), x.reached(0, 1, 8), x.reached(0, 1, 9), x.reached(1, 0, 3),
            x.reached(1, 0, 4), x.reached(1, 1, 7), x.reached(1, 1, 8), x.reached(1, 2, 15), x.reached(1, 2, 16)}, 1, 1, 7, 7, 0, 6, 6, 7, 7, 7);
        x = Watched.made(STILL + "board q at 80;bar c at 9 every 4 from 0 reach 0;trick t ticks 1 arms 40 worth 1 when tick=79 and done=0;");
        EDGES.row("from a board that no bar is by", new int[] {x.reached(1, 8, 80), x.reached(0, 0, 0)}, 0, 7);
        x = Watched.made("bar a at 9 every 4 from 0 reach 0;bar b at 39 every 4 from 0 reach 0;board p at 9;trick t ticks 1 arms 30 worth 1 when tick=79;");
        EDGES.row("at the last tick", new int[] {x.reached(0, 8, 79), x.reached(0, 8, 80), x.reached(0, 0, 80)}, 1, 3, 1);
    }

    private static void reachedRefused() {
        EDGES.of("Promise 20", "REACHED, as bits; NONE when something can't be.");
        int[][] wrong = {{-1, 1, 80}, {2, 1, 80}, {0, -1, 80}, {0, 9, 80}, {0, 1, -1}, {0, 1, 81}, {Integer.MAX_VALUE, 1, 80}, {0, Integer.MIN_VALUE, 80},
            {0, 1, Integer.MAX_VALUE}};
        for (int[] w : wrong) {
            EDGES.stays("reached(" + w[0] + ", " + w[1] + ", " + w[2] + ")", Scenes::planOpen, NONE, x -> x.reached(w[0], w[1], w[2]));
        }
        EDGES.stays("reached", Scenes::planOpen, 7, x -> x.reached(1, 8, 80));
        EDGES.stays("reached", Scenes::planOpen, 1, x -> x.reached(0, 0, 0));
        EDGES.due("without boards", new Watched().reached(0, 0, 0), NONE);
        EDGES.due("without bars", Watched.made("board p at 9;").reached(0, 8, 80), 0);
    }
}
