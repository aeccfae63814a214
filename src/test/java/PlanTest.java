/** Promises 21 to 25: take, fly, down, plan, step. */
public final class PlanTest {
    private static final Checks CHECKS = new Checks();
    private static final int NONE = FlyingBars.NONE;
    private static final String RIG = "bar a at 100 every 8 from 0 reach 20;bar b at 150 every 8 from 4 reach 20;"
            + "board l at 120;board r at 170;trick hop ticks 2 arms 10 worth 50-miss when all;"
            + "trick once ticks 2 arms 10 worth 7 when again=0;";

    public static void main(String[] args) {
        byHand();
        refused();
        eightFlights();
        lastTicks();
        worthAsTold();
        for (int seed = 0; seed < 400; seed++) {
            Model model = new Model(seed, 4, 3);
            against(model, Watched.made(model.text), "seed " + seed);
        }
        CHECKS.finish();
    }

    private static void plan(Watched x, int... due) {
        for (int what = 0; what < due.length; what++) {
            CHECKS.due("plan(" + what + ")", x.plan(what), due[what]);
        }
        CHECKS.due("plan(-1)", x.plan(-1), NONE);
        CHECKS.due("plan(6)", x.plan(6), NONE);
    }

    private static void byHand() {
        Watched x = Watched.made(RIG);
        plan(x, NONE, NONE, NONE, NONE, NONE, NONE);
        CHECKS.due("fly without a plan", x.fly(6, 0, 1), false);
        CHECKS.due("down without a plan", x.down(0, 0), false);
        CHECKS.due("take", x.take(0, 0, 0), true);
        plan(x, 0, 0, 0, NONE, NONE, 0);
        CHECKS.due("fly", x.fly(6, 0, 1), true);
        CHECKS.due("FLIGHTS", x.has(5), 1);
        int[] step = {6, 0, 1, 40};
        for (int what = 0; what < 4; what++) {
            CHECKS.due("step(0, " + what + ")", x.step(0, what), step[what]);
        }
        CHECKS.due("step(0, 4)", x.step(0, 4), NONE);
        CHECKS.due("step(0, -1)", x.step(0, -1), NONE);
        CHECKS.due("step(1, 0)", x.step(1, 0), NONE);
        CHECKS.due("step(-1, 0)", x.step(-1, 0), NONE);
        plan(x, 0, 0, 0, NONE, NONE, 40);
        CHECKS.due("down", x.down(12, 1), true);
        plan(x, 0, 0, 0, 12, 1, 40);
        CHECKS.due("down once more", x.down(12, 1), false);
        CHECKS.due("fly when it has gone down", x.fly(14, 0, 0), false);
        CHECKS.due("take that can't be", x.take(0, 1, 0), false);
        plan(x, 0, 0, 0, 12, 1, 40);
        CHECKS.due("take anew", x.take(1, 4, 1), true);
        plan(x, 4, 1, 1, NONE, NONE, 0);
        CHECKS.due("FLIGHTS", x.has(5), 0);
        CHECKS.due("down at once", x.down(4, 1), true);
        plan(x, 4, 1, 1, 4, 1, 0);
    }

    private static void refused() {
        Watched x = Watched.made(RIG);
        int[][] takes = {{-1, 0, 0}, {2, 0, 0}, {0, -1, 0}, {0, 81, 0}, {0, 0, -1}, {0, 0, 2}, {1, 0, 0}, {0, 88, 0}};
        for (int[] t : takes) {
            CHECKS.due("take(" + t[0] + ", " + t[1] + ", " + t[2] + ")", x.take(t[0], t[1], t[2]), false);
        }
        plan(x, NONE, NONE, NONE, NONE, NONE, NONE);
        CHECKS.due("take", x.take(0, 8, 0), true);
        int[][] flights = {{6, 0, 1}, {7, 0, 1}, {-2, 0, 1}, {13, 0, 1}, {14, 2, 1}, {14, -1, 1}, {14, 0, 0},
            {14, 0, 2}, {14, 0, -1}, {79, 0, 1}, {86, 0, 1}, {Integer.MAX_VALUE, 0, 1}};
        for (int[] f : flights) {
            CHECKS.due("fly(" + f[0] + ", " + f[1] + ", " + f[2] + ")", x.fly(f[0], f[1], f[2]), false);
        }
        int[][] downs = {{0, 0}, {7, 0}, {-8, 0}, {9, 0}, {8, 1}, {8, 2}, {8, -1}, {88, 0}, {81, 0}};
        for (int[] d : downs) {
            CHECKS.due("down(" + d[0] + ", " + d[1] + ")", x.down(d[0], d[1]), false);
        }
        plan(x, 8, 0, 0, NONE, NONE, 0);
        CHECKS.due("fly", x.fly(14, 1, 1), true);
        CHECKS.due("fly before the flyer came", x.fly(15, 0, 0), false);
        CHECKS.due("the test asks for another trick", x.fly(22, 1, 0), false);
        CHECKS.due("fly", x.fly(22, 0, 0), true);
        CHECKS.due("fly", x.fly(30, 1, 1), true);
        plan(x, 8, 0, 0, NONE, NONE, 7 + 40 + 7);
        CHECKS.due("down before the flyer came", x.down(28, 1), false);
    }

    private static final String STILL = "bar a at 9 every 4 from 0 reach 0;bar b at 9 every 4 from 0 reach 0;board p at 9;";

    private static void eightFlights() {
        Watched x = Watched.made(STILL + "trick k ticks 3 arms 0 worth done*10+again when done<9;");
        CHECKS.due("take", x.take(0, 0, 0), true);
        int worth = 0;
        for (int i = 0; i < 8; i++) {
            CHECKS.due("fly too soon", i > 0 && x.fly(3 * i - 1, 0, 1 - i % 2), false);
            CHECKS.due("fly", x.fly(3 * i, 0, 1 - i % 2), true);
            CHECKS.due("worth", x.step(i, 3), 10 * i + (i > 0 ? 1 : 0));
            worth += x.step(i, 3);
        }
        CHECKS.due("a 9th", x.fly(40, 0, 1), false);
        CHECKS.due("FLIGHTS", x.has(5), 8);
        CHECKS.due("down too soon", x.down(23, 0), false);
        CHECKS.due("down", x.down(24, 0), true);
        plan(x, 0, 0, 0, 24, 0, worth);
    }

    private static void lastTicks() {
        Watched x = Watched.made(STILL + "trick k ticks 3 arms 0 worth 1 when all;");
        CHECKS.due("take at 80", x.take(0, 80, 1), true);
        CHECKS.due("fly at 80", x.fly(80, 0, 0), false);
        CHECKS.due("down at 80", x.down(80, 0), true);
        CHECKS.due("take", x.take(0, 0, 1), true);
        CHECKS.due("comes down behind 80", x.fly(78, 0, 0), false);
        CHECKS.due("comes down at 80", x.fly(77, 0, 0), true);
        CHECKS.due("down at 79", x.down(79, 0), false);
        CHECKS.due("down at 81", x.down(81, 0), false);
        CHECKS.due("down at 80", x.down(80, 0), true);
    }

    private static void worthAsTold() {
        Watched x = Watched.made(STILL + "trick k ticks 3 arms 40 worth 40-miss when all;");
        CHECKS.due("take", x.take(0, 0, 0), true);
        CHECKS.due("fly", x.fly(0, 0, 1), true);
        CHECKS.due("change", x.change(1, 4, 3, 12), true);
        CHECKS.due("worth stays as told", x.step(0, 3) * 100 + x.plan(5), 4040);
        CHECKS.due("not BY it any more", x.down(4, 0), true);
        CHECKS.due("where", x.where(1, 4), 9);
    }

    private static void against(Model model, Watched x, String seed) {
        for (int round = 0; round < 10; round++) {
            int board = model.random.nextInt(model.boards);
            int tick = model.random.nextInt(82);
            int bar = model.random.nextInt(model.bars);
            boolean taken = tick <= 80 && model.by(bar, board, tick);
            CHECKS.due(seed + " take", x.take(board, tick, bar), taken);
            int flights = 0;
            int last = -1;
            int came = tick;
            for (int i = 0; taken && i < 30 && model.tricks > 0; i++) {
                int t = came - 1 + model.random.nextInt(10);
                int trick = model.random.nextInt(model.tricks);
                int to = model.random.nextInt(model.bars);
                boolean can = t >= came && t + model.ticks[trick] <= 80 && flights < 8
                        && model.good(bar, t, trick, to, flights, trick == last);
                CHECKS.due(seed + " fly", x.fly(t, trick, to), can);
                if (can) {
                    int worth = model.worth(bar, t, trick, to, flights, trick == last);
                    CHECKS.due(seed + " worth", x.step(flights, 3), worth);
                    flights++;
                    last = trick;
                    bar = to;
                    came = t + model.ticks[trick];
                }
            }
            for (int t = came - 1; taken && t <= 81; t++) {
                boolean can = t >= came && t <= 80 && model.by(bar, board, t);
                CHECKS.due(seed + " down", x.down(t, board), can);
                if (can) {
                    break;
                }
            }
        }
    }
}
