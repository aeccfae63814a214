/** The boundary cases of promises 21 to 25: take, fly, down, plan, step. */
public final class EdgePlanTest {
    private static final Edges EDGES = new Edges();
    private static final int NONE = FlyingBars.NONE;
    private static final String STILL = "bar a at 9 every 4 from 0 reach 0;bar b at 9 every 4 from 0 reach 0;board p at 9;";
    private static final String THREE = STILL + "trick t ticks 3 arms 0 worth 10*done+again when all;";

    public static void main(String[] args) {
        newPlan();
        takeTicks();
        takeRefused();
        flightMore();
        beforeTheFlyerCame();
        notGood();
        behindTick80();
        aNinth();
        flyRefused();
        goesDown();
        downBehindEight();
        downRefused();
        planOf();
        planNone();
        stepOf();
        stepNone();
        EDGES.finish();
    }

    private static int[] plan(Watched x) {
        return new int[] {x.plan(0), x.plan(1), x.plan(2), x.plan(3), x.plan(4), x.plan(5), x.has(5)};
    }

    private static void newPlan() {
        EDGES.of("Promise 21", "THE PLAN is a new one: a BAR is taken from a BOARD at a tick (0 .. 80): true");
        Watched x = Scenes.noPlan();
        EDGES.due("take without a plan", x.take(0, 0, 0), true);
        EDGES.row("the plan", plan(x), 0, 0, 0, NONE, NONE, 0, 0);
        x = Scenes.planOpen();
        EDGES.due("take with a plan that has not gone down", x.take(1, 12, 2), true);
        EDGES.row("the plan", plan(x), 12, 2, 1, NONE, NONE, 0, 0);
        EDGES.due("its flights are gone", x.step(0, 0), NONE);
        EDGES.due("it goes down", x.down(12, 1), true);
        x = Scenes.planDown();
        EDGES.due("take with a plan that has gone down", x.take(0, 16, 0), true);
        EDGES.row("the plan", plan(x), 16, 0, 0, NONE, NONE, 0, 0);
        EDGES.due("it can't be booked", x.book(0), NONE);
        EDGES.due("the bill stays", x.has(4), 2);
        x.best(0, 1, 1, 80);
        EDGES.due("take behind best()", x.take(0, 16, 0), true);
        EDGES.row("the plan", plan(x), 16, 0, 0, NONE, NONE, 0, 0);
    }

    private static void takeTicks() {
        EDGES.of("Promise 21", "a BAR is taken from a BOARD at a tick (0 .. 80)");
        Watched x = Watched.made(THREE);
        int[] ticks = {-1, 0, 1, 79, 80, 81};
        for (int tick : ticks) {
            EDGES.due("take at " + tick, x.take(0, tick, 1), tick >= 0 && tick <= 80);
        }
        EDGES.row("the last one", plan(x), 80, 1, 0, NONE, NONE, 0, 0);
        EDGES.due("down at 80", x.down(80, 0), true);
    }

    private static void takeRefused() {
        EDGES.of("Promise 21", "false when something can't be, or the BAR is not BY it (THE PLAN stays).");
        int[][] wrong = {{-1, 0, 0}, {2, 0, 0}, {0, -1, 0}, {0, 81, 0}, {0, 88, 0}, {0, -8, 0}, {0, 0, -1}, {0, 0, 3}, {0, 1, 0}, {0, 7, 0}, {1, 0, 0}, {0, 0, 1},
            {1, 3, 1}, {1, 5, 1}, {Integer.MAX_VALUE, 0, 0}, {0, Integer.MIN_VALUE, 0}, {0, Integer.MAX_VALUE, 0}, {0, 0, Integer.MAX_VALUE}};
        for (int[] w : wrong) {
            String call = "take(" + w[0] + ", " + w[1] + ", " + w[2] + ")";
            EDGES.stays(call, Scenes::planOpen, 0, x -> x.take(w[0], w[1], w[2]) ? 1 : 0);
            EDGES.stays(call, Scenes::planDown, 0, x -> x.take(w[0], w[1], w[2]) ? 1 : 0);
            EDGES.stays(call, Scenes::noPlan, 0, x -> x.take(w[0], w[1], w[2]) ? 1 : 0);
        }
        int[][] right = {{0, 0, 0}, {0, 8, 0}, {0, 80, 0}, {1, 4, 1}, {1, 76, 2}};
        for (int[] r : right) {
            EDGES.due("take(" + r[0] + ", " + r[1] + ", " + r[2] + ")", Scenes.planDown().take(r[0], r[1], r[2]), true);
        }
        EDGES.due("take without bars", new Watched().take(0, 0, 0), false);
        for (int place = 0; place <= 6; place++) {
            Watched x = Watched.made("bar a at 0 every 4 from 0 reach 0;board p at " + place + ";");
            EDGES.row("bars beside a board at " + place, new int[] {x.take(0, 0, -1) ? 1 : 0, x.take(0, 0, 0) ? 1 : 0, x.take(0, 0, 1) ? 1 : 0, x.take(0, 0, 7) ? 1 : 0,
                x.take(0, 0, 8) ? 1 : 0, x.take(1, 0, 0) ? 1 : 0}, 0, place <= 5 ? 1 : 0, 0, 0, 0, 0);
        }
    }

    private static void flightMore() {
        EDGES.of("Promise 22", "A FLIGHT more of THE PLAN that has not gone down: true");
        Watched x = Watched.made(THREE);
        EDGES.due("take", x.take(0, 5, 0), true);
        EDGES.due("fly at the tick at which the bar was taken", x.fly(5, 0, 1), true);
        EDGES.due("fly at the tick at which it came", x.fly(8, 0, 0), true);
        EDGES.due("fly later", x.fly(20, 0, 1), true);
        EDGES.row("the plan", plan(x), 5, 0, 0, NONE, NONE, 0 + 11 + 21, 3);
        EDGES.due("down", x.down(23, 0), true);
        EDGES.due("no flight when it has gone down", x.fly(30, 0, 0), false);
        EDGES.row("the plan", plan(x), 5, 0, 0, 23, 0, 32, 3);
        EDGES.due("fly without a plan", Watched.made(THREE).fly(5, 0, 1), false);
        EDGES.of("Terms II", "done: how many FLIGHTS the flyer had in this ACT ahead of it; again: 1, if the one just ahead was by the same TRICK, else 0");
        x = Watched.made(STILL + "trick t ticks 1 arms 0 worth 10*done+again when all;trick u ticks 1 arms 0 worth 100+10*done+again when all;");
        EDGES.due("flights", x.take(0, 0, 0) && x.fly(0, 0, 1) && x.fly(1, 0, 0) && x.fly(2, 1, 1) && x.fly(3, 0, 0) && x.fly(4, 0, 1) && x.fly(5, 1, 0), true);
        EDGES.row("their worths", new int[] {x.step(0, 3), x.step(1, 3), x.step(2, 3), x.step(3, 3), x.step(4, 3), x.step(5, 3)}, 0, 11, 120, 30, 41, 150);
        EDGES.due("a new plan begins anew", x.take(0, 0, 0) && x.fly(0, 1, 1) && x.step(0, 3) == 100, true);
    }

    private static void beforeTheFlyerCame() {
        EDGES.of("Promise 22", "it is before the flyer came to its BAR");
        for (int ticks = 1; ticks <= 20; ticks++) {
            Watched x = Watched.made(STILL + "trick t ticks " + ticks + " arms 0 worth 1 when all;");
            x.take(0, 7, 0);
            EDGES.due("a tick before the bar was taken", x.fly(6, 0, 1), false);
            EDGES.due("at that tick", x.fly(7, 0, 1), true);
            EDGES.due("a tick before it came", x.fly(7 + ticks - 1, 0, 0), false);
            EDGES.due("at that tick", x.fly(7 + ticks, 0, 0), true);
            EDGES.due("a tick before it came", x.fly(7 + 2 * ticks - 1, 0, 1), false);
            EDGES.due("a tick behind", x.fly(7 + 2 * ticks + 1, 0, 1), true);
            EDGES.row("the flights", new int[] {x.has(5), x.step(0, 0), x.step(1, 0), x.step(2, 0)}, 3, 7, 7 + ticks, 8 + 2 * ticks);
        }
    }

    private static void notGood() {
        EDGES.of("Promise 22", "not GOOD");
        for (int apart = 9; apart <= 11; apart++) {
            Watched x = Watched.made("bar a at 100 every 4 from 0 reach 0;bar b at " + (100 + apart) + " every 4 from 0 reach 0;board p at 100;"
                    + "trick t ticks 2 arms 10 worth 1 when all;");
            EDGES.due("take", x.take(0, 0, 0), true);
            EDGES.due("a miss of " + apart + " by arms of 10", x.fly(0, 0, 1), apart <= 10);
            EDGES.due("flights", x.has(5), apart <= 10 ? 1 : 0);
        }
        Watched x = Watched.made(STILL + "trick t ticks 2 arms 10 worth 1 when done<2;trick u ticks 2 arms 10 worth 1 when again=0;trick v ticks 2 arms 10 worth 1 when tick=30;");
        x.take(0, 0, 0);
        EDGES.due("the first of t", x.fly(0, 0, 1), true);
        EDGES.due("the second of t", x.fly(2, 0, 0), true);
        EDGES.due("a third of t", x.fly(4, 0, 1), false);
        EDGES.due("u", x.fly(4, 1, 1), true);
        EDGES.due("u again", x.fly(6, 1, 0), false);
        EDGES.due("v at 29", x.fly(29, 2, 0), false);
        EDGES.due("v at 31", x.fly(31, 2, 0), false);
        EDGES.due("v at 30", x.fly(30, 2, 0), true);
        EDGES.due("u once more", x.fly(32, 1, 1), true);
        EDGES.due("flights", x.has(5), 5);
    }

    private static void behindTick80() {
        EDGES.of("Promise 22", "comes down behind tick 80");
        for (int ticks = 1; ticks <= 20; ticks++) {
            Watched x = Watched.made(STILL + "trick t ticks " + ticks + " arms 0 worth 1 when all;");
            x.take(0, 0, 0);
            EDGES.due("it would come down at 82", x.fly(82 - ticks, 0, 1), false);
            EDGES.due("it would come down at 81", x.fly(81 - ticks, 0, 1), false);
            EDGES.due("it comes down at 80", x.fly(80 - ticks, 0, 1), true);
            EDGES.due("one more", x.fly(80, 0, 0), false);
            EDGES.due("flights", x.has(5), 1);
            EDGES.due("down at 80", x.down(80, 0), true);
        }
        Watched x = Watched.made(STILL + "trick t ticks 2 arms 0 worth 1 when all;");
        x.take(0, 0, 0);
        EDGES.due("it comes down at 79", x.fly(77, 0, 1), true);
    }

    private static Watched withFlights(int count) {
        Watched x = Watched.made(STILL + "trick t ticks 1 arms 0 worth 1 when all;");
        x.take(0, 0, 0);
        for (int i = 0; i < count; i++) {
            x.fly(i, 0, 1 - i % 2);
        }
        return x;
    }

    private static void aNinth() {
        EDGES.of("Promise 22", "or would be a 9th");
        for (int count = 6; count <= 7; count++) {
            Watched x = withFlights(count);
            EDGES.due("one more behind " + count, x.fly(20, 0, 1 - count % 2), true);
            EDGES.due("flights", x.has(5), count + 1);
        }
        EDGES.stays("a 9th", () -> withFlights(8), 0, x -> x.fly(20, 0, 1) ? 1 : 0);
        Watched x = withFlights(8);
        EDGES.due("a 9th", x.fly(8, 0, 1), false);
        EDGES.row("the 8th is the last", new int[] {x.has(5), x.step(7, 0), x.step(8, 0), x.plan(5)}, 8, 7, NONE, 8);
        EDGES.due("it goes down", x.down(8, 0), true);
        EDGES.due("onto the bill", x.book(0), 1);
    }

    private static void flyRefused() {
        EDGES.of("Promise 22", "false when something can't be, it is before the flyer came to its BAR, not GOOD, comes down behind tick 80, or would be a 9th.");
        // The plan took aa at 8 and came to bb at 16 by once; good are 22 and 23, 30 and 31 ..
        int[][] wrong = {{22, -1, 0}, {22, 2, 0}, {22, 0, -1}, {22, 0, 3}, {22, 0, 1}, {-1, 0, 0}, {-2, 0, 0}, {6, 0, 0}, {15, 0, 0}, {21, 0, 0}, {24, 0, 0}, {22, 1, 0},
            {79, 0, 0}, {80, 0, 0}, {81, 0, 0}, {86, 0, 0}, {Integer.MAX_VALUE, 0, 0}, {Integer.MIN_VALUE, 0, 0}, {22, Integer.MAX_VALUE, 0}, {22, 0, Integer.MIN_VALUE}};
        for (int[] w : wrong) {
            String call = "fly(" + w[0] + ", " + w[1] + ", " + w[2] + ")";
            EDGES.stays(call, Scenes::planOpen, 0, x -> x.fly(w[0], w[1], w[2]) ? 1 : 0);
        }
        int[][] calls = {{22, 0, 0}, {23, 0, 0}, {78, 0, 0}, {16, 0, 2}};
        for (int[] c : calls) {
            String call = "fly(" + c[0] + ", " + c[1] + ", " + c[2] + ")";
            EDGES.due(call, Scenes.planOpen().fly(c[0], c[1], c[2]), true);
            EDGES.stays(call, Scenes::planDown, 0, x -> x.fly(c[0], c[1], c[2]) ? 1 : 0);
            EDGES.stays(call, Scenes::noPlan, 0, x -> x.fly(c[0], c[1], c[2]) ? 1 : 0);
        }
        EDGES.due("fly without bars", new Watched().fly(0, 0, 0), false);
    }

    private static void goesDown() {
        EDGES.of("Promise 23", "THE PLAN goes down at a tick on a BOARD: true");
        Watched x = Watched.made(THREE);
        x.take(0, 5, 0);
        EDGES.due("at the tick at which the bar was taken", x.down(5, 0), true);
        EDGES.row("the plan", plan(x), 5, 0, 0, 5, 0, 0, 0);
        x.take(0, 5, 0);
        x.fly(9, 0, 1);
        EDGES.due("a tick before the flyer came", x.down(11, 0), false);
        EDGES.due("at that tick", x.down(12, 0), true);
        EDGES.row("the plan", plan(x), 5, 0, 0, 12, 0, 0, 1);
        x.take(0, 5, 0);
        EDGES.due("before the bar was taken", x.down(4, 0), false);
        EDGES.due("at 81", x.down(81, 0), false);
        EDGES.due("at 80", x.down(80, 0), true);
        EDGES.due("once more", x.down(80, 0), false);
        x = Scenes.planOpen();
        EDGES.due("on another board", x.down(20, 1), true);
        EDGES.row("the plan", plan(x), 8, 0, 0, 20, 1, 7, 1);
    }

    /** Eight flights from bar a to bar c, of which c alone is by board q. */
    private static void downBehindEight() {
        EDGES.of("Promise 23", "THE PLAN goes down at a tick on a BOARD: true");
        Watched x = Watched.made("bar a at 9 every 4 from 0 reach 0;bar b at 9 every 4 from 0 reach 0;bar c at 20 every 4 from 0 reach 0;board p at 9;board q at 25;"
                + "trick t ticks 1 arms 11 worth 1 when all;");
        x.take(0, 0, 0);
        for (int i = 0; i < 8; i++) {
            EDGES.due("on q ahead of flight " + i, x.down(i, 1), false);
            EDGES.due("fly", x.fly(i, 0, i == 7 ? 2 : 1 - i % 2), true);
        }
        EDGES.due("on p behind them", x.down(8, 0), false);
        EDGES.due("on q before the last coming", x.down(7, 1), false);
        EDGES.due("on q behind them", x.down(8, 1), true);
        EDGES.row("the plan", plan(x), 0, 0, 0, 8, 1, 8, 8);
        EDGES.due("onto the bill", x.book(0), 1);
    }

    private static void downRefused() {
        EDGES.of("Promise 23", "false when something can't be, it has gone down, or the BAR is not BY it then.");
        // The flyer came to bb at 16; bb is by board rr at 20, 28 .. 76.
        int[][] wrong = {{20, -1}, {20, 2}, {20, 0}, {12, 1}, {4, 1}, {19, 1}, {21, 1}, {16, 1}, {84, 1}, {81, 1}, {-4, 1}, {-1, 1}, {Integer.MAX_VALUE, 1},
            {Integer.MIN_VALUE, 1}, {20, Integer.MAX_VALUE}};
        for (int[] w : wrong) {
            String call = "down(" + w[0] + ", " + w[1] + ")";
            EDGES.stays(call, Scenes::planOpen, 0, x -> x.down(w[0], w[1]) ? 1 : 0);
        }
        int[][] calls = {{20, 1}, {28, 1}, {76, 1}};
        for (int[] c : calls) {
            String call = "down(" + c[0] + ", " + c[1] + ")";
            EDGES.due(call, Scenes.planOpen().down(c[0], c[1]), true);
            EDGES.stays(call + " when it has gone down", Scenes::planDown, 0, x -> x.down(c[0], c[1]) ? 1 : 0);
            EDGES.stays(call + " without a plan", Scenes::noPlan, 0, x -> x.down(c[0], c[1]) ? 1 : 0);
        }
        EDGES.due("down without bars", new Watched().down(0, 0), false);
    }

    private static void planOf() {
        EDGES.of("Promise 24", "3 the tick at which it goes down (NONE not yet), 4 on which BOARD (likewise)");
        Watched x = Watched.made(THREE);
        x.take(0, 0, 0);
        EDGES.row("not yet", new int[] {x.plan(3), x.plan(4)}, NONE, NONE);
        x.down(0, 0);
        EDGES.row("at tick 0 on board 0", new int[] {x.plan(3), x.plan(4)}, 0, 0);
        x.take(0, 0, 0);
        EDGES.row("not yet, once more", new int[] {x.plan(3), x.plan(4)}, NONE, NONE);
        EDGES.of("Promise 24", "5 its WORTH (of its FLIGHTS as BARS went when they were told)");
        x = Watched.made(STILL + "trick t ticks 3 arms 40 worth 40-miss when all;");
        x.take(0, 0, 0);
        EDGES.due("without a flight", x.plan(5), 0);
        x.fly(0, 0, 1);
        EDGES.due("with one", x.plan(5), 40);
        x.change(0, 4, 0, 20);
        EDGES.row("as told", new int[] {x.plan(5), x.step(0, 3), x.flight(0, 0, 0, 1, 0, false, 0)}, 40, 40, 40);
        // Bar a is at 9 at tick 7, three ticks from 4 on: the flight misses by nothing; from 5 on it misses by 20.
        EDGES.due("a flight as bars go now", x.fly(5, 0, 0), true);
        EDGES.row("both together", new int[] {x.plan(5), x.step(1, 3), x.where(0, 8)}, 60, 20, 29);
    }

    private static void planNone() {
        EDGES.of("Promise 24", "NONE without one, or for others.");
        for (int what = -1; what <= 6; what++) {
            EDGES.due("plan(" + what + ") without one", Scenes.noPlan().plan(what), NONE);
        }
        Watched x = Scenes.planDown();
        EDGES.row("from -1 to 6", new int[] {x.plan(-1), x.plan(0), x.plan(1), x.plan(2), x.plan(3), x.plan(4), x.plan(5), x.plan(6)},
                NONE, 8, 0, 0, 20, 1, 7, NONE);
        EDGES.row("far off", new int[] {x.plan(Integer.MIN_VALUE), x.plan(Integer.MAX_VALUE)}, NONE, NONE);
    }

    private static void stepOf() {
        EDGES.of("Promise 25", "Of FLIGHT i of THE PLAN: 0 its tick, 1 TRICK, 2 BAR to which it goes, 3 its WORTH.");
        Watched x = Scenes.planOpen();
        EDGES.row("the first", new int[] {x.step(0, 0), x.step(0, 1), x.step(0, 2), x.step(0, 3)}, 14, 1, 1, 7);
        EDGES.due("fly", x.fly(78, 0, 0), true);
        EDGES.row("the second", new int[] {x.step(1, 0), x.step(1, 1), x.step(1, 2), x.step(1, 3)}, 78, 0, 0, 40);
        x = withFlights(8);
        for (int i = 0; i < 8; i++) {
            EDGES.row("flight " + i, new int[] {x.step(i, 0), x.step(i, 1), x.step(i, 2), x.step(i, 3)}, i, 0, 1 - i % 2, 1);
        }
    }

    private static void stepNone() {
        EDGES.of("Promise 25", "NONE when there is none such, or for others.");
        Watched x = Scenes.planOpen();
        EDGES.row("by flight", new int[] {x.step(-1, 0), x.step(0, 0), x.step(1, 0), x.step(2, 0), x.step(8, 0), x.step(Integer.MAX_VALUE, 0), x.step(Integer.MIN_VALUE, 0)},
                NONE, 14, NONE, NONE, NONE, NONE, NONE);
        EDGES.row("by what", new int[] {x.step(0, -1), x.step(0, 0), x.step(0, 3), x.step(0, 4), x.step(0, Integer.MAX_VALUE), x.step(0, Integer.MIN_VALUE)},
                NONE, 14, 7, NONE, NONE, NONE);
        for (int count = 0; count <= 8; count++) {
            x = withFlights(count);
            EDGES.due("the last of " + count, x.step(count - 1, 0), count == 0 ? NONE : count - 1);
            EDGES.due("behind " + count, x.step(count, 0), NONE);
        }
        EDGES.due("without a plan", Scenes.noPlan().step(0, 0), NONE);
        x = withFlights(3);
        x.take(0, 0, 0);
        EDGES.due("of the plan ahead of this one", x.step(0, 0), NONE);
        x.rig(STILL);
        EDGES.due("of the rig ahead of this one", x.step(0, 0), NONE);
    }
}
