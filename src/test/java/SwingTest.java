/** Promises 8 to 13, 17 and 18: change, where, speed, round, flight, window, nearest, idle. */
public final class SwingTest {
    private static final Checks CHECKS = new Checks();
    private static final int NOWHERE = -1000000000;

    public static void main(String[] args) {
        whereAndSpeed();
        change();
        round();
        flights();
        windows();
        for (int seed = 0; seed < 150; seed++) {
            Model model = new Model(seed, 5, 4);
            against(model, Watched.made(model.text), "seed " + seed);
        }
        CHECKS.finish();
    }

    private static String bar(String name, int place, int period, int phase, int reach) {
        return "bar " + name + " at " + place + " every " + period + " from " + phase + " reach " + reach + ";";
    }

    private static void whereAndSpeed() {
        // 4 * 3 * d / 7 for d = 0 1 2 3 3 2 1 is 0 1 3 5 5 3 1.
        Watched x = Watched.made(bar("a", 10, 7, 0, 3) + bar("b", 10, 7, 9, 3));
        int[] places = {13, 12, 10, 8, 8, 10, 12};
        for (int t = 0; t < 30; t++) {
            CHECKS.due("where(0, " + t + ")", x.where(0, t), places[t % 7]);
            CHECKS.due("where(1, " + t + ")", x.where(1, t), places[(t + 9) % 7]);
            CHECKS.due("speed(0, " + t + ")", x.speed(0, t), places[(t + 1) % 7] - places[t % 7]);
        }
        CHECKS.due("where at 1000", x.where(0, 1000), places[1000 % 7]);
        CHECKS.due("speed at 1000", x.speed(0, 1000), places[1001 % 7] - places[1000 % 7]);
        int[][] wrong = {{2, 0}, {-1, 0}, {0, -1}, {0, 1001}, {Integer.MAX_VALUE, 5}, {0, Integer.MIN_VALUE}};
        for (int[] w : wrong) {
            CHECKS.due("where", x.where(w[0], w[1]), NOWHERE);
            CHECKS.due("speed", x.speed(w[0], w[1]), NOWHERE);
        }
        x = Watched.made(bar("a", 0, 4, 0, 60));
        CHECKS.due("below 0", x.where(0, 2), -60);
    }

    private static void change() {
        Watched x = Watched.made(bar("a", 10, 7, 0, 3));
        CHECKS.due("change", x.change(0, 4, 39, 60), true);
        CHECKS.due("where", x.where(0, 1), 70);
        CHECKS.due("change", x.change(0, 40, 0, 0), true);
        CHECKS.due("where", x.where(0, 1), 10);
        int[][] wrong = {{1, 8, 0, 1}, {-1, 8, 0, 1}, {0, 3, 0, 1}, {0, 41, 0, 1}, {0, 8, -1, 1}, {0, 8, 40, 1},
            {0, 8, 0, -1}, {0, 8, 0, 61}};
        for (int[] w : wrong) {
            CHECKS.due("change", x.change(w[0], w[1], w[2], w[3]), false);
        }
        CHECKS.due("where stays", x.where(0, 3), 10);
        x = Watched.made(bar("a", 10, 4, 0, 0) + bar("b", 10, 4, 0, 0)
                + "board p at 10;trick t ticks 1 arms 0 worth 7 when all;");
        CHECKS.due("best", x.best(0, 0, 1, 80), 7);
        CHECKS.due("ways", x.ways(0, 0, 1, 1), 8);
        CHECKS.due("change", x.change(1, 5, 0, 60), true);
        CHECKS.due("the plan stays", x.plan(5), 7);
        CHECKS.due("best by how it goes now", x.best(0, 0, 1, 80), 0);
        CHECKS.due("ways by how it goes now", x.ways(0, 0, 1, 1), 3);
        CHECKS.due("change", x.change(1, 4, 0, 60), true);
        // Bar b goes 70, 10, -50, 10: it is met at odd ticks.
        CHECKS.due("ways once more", x.ways(0, 0, 1, 1), 5);
    }

    private static void round() {
        CHECKS.due("round without bars", new Watched().round(), 1);
        Watched x = Watched.made(bar("a", 10, 7, 0, 3));
        CHECKS.due("round of one", x.round(), 7);
        x = Watched.made(bar("a", 10, 12, 5, 3) + bar("b", 10, 8, 0, 1) + bar("c", 10, 9, 0, 60));
        CHECKS.due("round of three", x.round(), 72);
        CHECKS.due("change", x.change(2, 7, 0, 0), true);
        CHECKS.due("a bar that stands still has any round", x.round(), 24);
        CHECKS.due("change", x.change(0, 12, 0, 0) && x.change(1, 8, 0, 0), true);
        CHECKS.due("all stand still", x.round(), 1);
        String primes = bar("a", 1, 37, 0, 1) + bar("b", 1, 31, 0, 1) + bar("c", 1, 29, 0, 1) + bar("d", 1, 23, 0, 1)
                + bar("e", 1, 19, 0, 1);
        x = Watched.made(primes);
        CHECKS.due("below 10 to the 9", x.round(), 37 * 31 * 29 * 23 * 19);
        x = Watched.made(primes + bar("f", 1, 17, 0, 1) + bar("g", 1, 13, 0, 1) + bar("h", 1, 11, 0, 1));
        CHECKS.due("10 to the 9 at most", x.round(), 1000000000);
        for (int period = 4; period <= 40; period++) {
            for (int reach = 0; reach <= 60; reach += reach < 4 ? 1 : 14) {
                x = Watched.made(bar("a", 100, period, 3, reach));
                CHECKS.due("round of " + period + " " + reach, x.round(), leastRound(x));
            }
        }
    }

    private static int leastRound(Watched x) {
        for (int n = 1; n <= 40; n++) {
            boolean like = true;
            for (int t = 0; t < 40 && like; t++) {
                like = x.where(0, t) == x.where(0, t + n);
            }
            if (like) {
                return n;
            }
        }
        return 0;
    }

    private static void flights() {
        Watched x = Watched.made(bar("a", 100, 8, 0, 20) + bar("b", 130, 8, 0, 0)
                + "trick t ticks 3 arms 10 worth 60-miss when tick<999 and done<8;");
        CHECKS.due("MISS", x.flight(0, 5, 0, 1, 0, false, 0), 10);
        CHECKS.due("at the end of ARMS", x.flight(0, 5, 0, 1, 0, false, 1), 1);
        CHECKS.due("WORTH", x.flight(0, 5, 0, 1, 0, false, 2), 50);
        CHECKS.due("MISS", x.flight(0, 4, 0, 1, 0, false, 0), 20);
        CHECKS.due("out of ARMS", x.flight(0, 4, 0, 1, 0, false, 1), 0);
        CHECKS.due("WORTH all the same", x.flight(0, 4, 0, 1, 0, false, 2), 40);
        CHECKS.due("good at 997", x.flight(0, 997, 0, 1, 0, false, 1), 1);
        CHECKS.due("the test fails", x.flight(0, 997, 0, 1, 8, false, 1), 0);
        CHECKS.due("tick 1000", x.flight(0, 1000, 0, 1, 8, true, 0), 20 * 2 - 20 + 20);
        int[][] wrong = {{-1, 5, 0, 1, 0, 0}, {2, 5, 0, 1, 0, 0}, {0, -1, 0, 1, 0, 0}, {0, 1001, 0, 1, 0, 0},
            {0, 5, 1, 1, 0, 0}, {0, 5, -1, 1, 0, 0}, {0, 5, 0, 2, 0, 0}, {0, 5, 0, -1, 0, 0}, {0, 5, 0, 0, 0, 0},
            {0, 5, 0, 1, 9, 0}, {0, 5, 0, 1, -1, 0}, {0, 5, 0, 1, 0, 3}, {0, 5, 0, 1, 0, -1}};
        for (int[] w : wrong) {
            CHECKS.due("flight", x.flight(w[0], w[1], w[2], w[3], w[4], false, w[5]), FlyingBars.NONE);
        }
    }

    private static void windows() {
        Watched x = Watched.made(bar("a", 100, 8, 0, 20) + bar("b", 130, 8, 0, 0)
                + "trick t ticks 3 arms 9 worth 1 when all;trick u ticks 3 arms 10 worth 1 when tick>110;");
        // From 80 on, tick 4: 80 90 100 110 120 and falling again: at 6 it comes to 130 just so.
        CHECKS.due("window", x.window(0, 0, 1, -1), 15);
        CHECKS.due("window", x.window(0, 0, 1, 0), 6);
        CHECKS.due("window", x.window(0, 0, 1, 14), 118);
        CHECKS.due("window", x.window(0, 0, 1, 15), FlyingBars.NONE);
        CHECKS.due("window", x.window(0, 0, 1, -2), FlyingBars.NONE);
        CHECKS.due("window", x.window(0, 0, 0, -1), FlyingBars.NONE);
        CHECKS.due("window", x.window(0, 2, 1, -1), FlyingBars.NONE);
        CHECKS.due("window", x.window(2, 0, 1, -1), FlyingBars.NONE);
        CHECKS.due("window", x.window(0, 0, -1, -1), FlyingBars.NONE);
        CHECKS.due("window", x.window(0, 1, 1, 0), 111);
        CHECKS.due("window ends at 119", x.window(0, 1, 1, -1), 4);
        CHECKS.due("window ends at 119", x.window(0, 1, 1, 3), 119);
        CHECKS.due("no tick", x.window(1, 0, 0, 0), FlyingBars.NONE);
        CHECKS.due("no tick", x.window(1, 0, 0, -1), 0);
        CHECKS.due("nearest tick", x.nearest(0, 1, 1, false), 6);
        CHECKS.due("nearest miss", x.nearest(0, 1, 1, true), 0);
        CHECKS.due("nearest of one bar", x.nearest(0, 0, 0, true), FlyingBars.NONE);
        CHECKS.due("nearest of no trick", x.nearest(0, 2, 1, true), FlyingBars.NONE);
        CHECKS.due("nearest of no bar", x.nearest(0, 0, 2, false), FlyingBars.NONE);
        CHECKS.due("idle", x.idle(0), 0);
        CHECKS.due("idle", x.idle(1), 0);
        CHECKS.due("idle", x.idle(2), FlyingBars.NONE);
        CHECKS.due("idle", x.idle(-1), FlyingBars.NONE);
        String far = bar("a", 0, 8, 0, 0) + bar("b", 50, 8, 0, 0);
        x = Watched.made(far + "trick t ticks 3 arms 40 worth 1 when all;");
        CHECKS.due("idle", x.idle(0), 1);
        CHECKS.due("nearest is told even so", x.nearest(0, 0, 1, true), 50);
        CHECKS.due("the first of like ones", x.nearest(0, 0, 1, false), 0);
        x = Watched.made(bar("a", 0, 8, 0, 0) + "trick t ticks 3 arms 40 worth 1 when all;");
        CHECKS.due("idle with one bar", x.idle(0), 1);
        x = Watched.made(bar("a", 0, 8, 0, 0) + bar("b", 0, 8, 0, 0) + "trick t ticks 3 arms 40 worth 1 when tick>118;"
                + "trick u ticks 3 arms 40 worth 1 when tick>119;");
        CHECKS.due("not idle at 119", x.idle(0), 0);
        CHECKS.due("idle by 119", x.idle(1), 1);
        x = Watched.made(far + "trick t ticks 3 arms 40 worth 1 when done>0 or again=1;");
        CHECKS.due("done and again are 0", x.change(1, 8, 0, 60) && x.idle(0) == 1, true);
    }

    private static void against(Model model, Watched x, String seed) {
        for (int i = 0; i < 60; i++) {
            int from = model.random.nextInt(model.bars);
            int to = model.random.nextInt(model.bars);
            int tick = model.random.nextInt(1001);
            CHECKS.due(seed + " where", x.where(from, tick), model.where(from, tick));
            CHECKS.due(seed + " speed", x.speed(from, tick), model.speed(from, tick));
            if (model.tricks == 0 || from == to) {
                continue;
            }
            int trick = model.random.nextInt(model.tricks);
            int done = model.random.nextInt(9);
            boolean again = model.random.nextBoolean();
            String call = seed + " flight(" + from + ", " + tick + ", " + trick + ", " + to + ", " + done + ", " + again + ")";
            CHECKS.due(call + " 0", x.flight(from, tick, trick, to, done, again, 0), model.miss(from, tick, trick, to));
            CHECKS.due(call + " 1", x.flight(from, tick, trick, to, done, again, 1),
                    model.good(from, tick, trick, to, done, again) ? 1 : 0);
            CHECKS.due(call + " 2", x.flight(from, tick, trick, to, done, again, 2),
                    model.worth(from, tick, trick, to, done, again));
        }
        for (int trick = 0; trick < model.tricks; trick++) {
            boolean idle = true;
            for (int from = 0; from < model.bars; from++) {
                for (int to = 0; to < model.bars; to++) {
                    idle &= from == to || window(model, Watched.made(model.text), seed, from, trick, to) == 0;
                }
            }
            CHECKS.due(seed + " idle", x.idle(trick), idle ? 1 : 0);
        }
    }

    private static int window(Model model, Watched x, String seed, int from, int trick, int to) {
        int found = 0;
        int least = 0;
        for (int tick = 0; tick < 120; tick++) {
            if (model.good(from, tick, trick, to, 0, false)) {
                CHECKS.due(seed + " window", x.window(from, trick, to, found), tick);
                found++;
            }
            if (model.miss(from, tick, trick, to) < model.miss(from, least, trick, to)) {
                least = tick;
            }
        }
        CHECKS.due(seed + " window", x.window(from, trick, to, -1), found);
        CHECKS.due(seed + " window", x.window(from, trick, to, found), FlyingBars.NONE);
        CHECKS.due(seed + " nearest", x.nearest(from, trick, to, false), least);
        CHECKS.due(seed + " nearest", x.nearest(from, trick, to, true), model.miss(from, least, trick, to));
        return found;
    }
}
