import java.math.BigInteger;
import java.util.List;

/** Promises 14, 15, 16, 19, 20 (best, soonest, ways, barred, reached), against acts found naively. */
public final class ActsTest {
    private static final Checks CHECKS = new Checks();
    private static int acts;

    public static void main(String[] args) {
        for (int seed = 0; seed < 700; seed++) {
            Model model = new Model(seed, 4, 3);
            Watched x = Watched.made(model.text);
            small(model, x, seed);
        }
        for (int seed = 1000; seed < 1060; seed++) {
            Model model = new Model(seed, seed % 2 == 0 ? 4 : 6, 4);
            large(model, Watched.made(model.text), seed);
        }
        CHECKS.due("acts were looked at", acts > 20000, true);
        told();
        lastTick();
        fullRig();
        refused();
        CHECKS.finish();
    }

    private static void small(Model model, Watched x, int seed) {
        for (int i = 0; i < 4; i++) {
            int from = model.random.nextInt(model.boards);
            int to = model.random.nextInt(model.boards);
            int n = model.random.nextInt(5);
            int by = 4 + model.random.nextInt(24);
            List<Model.Found> all = model.all(from, to, n, by, 30000);
            if (all == null) {
                continue;
            }
            acts += all.size();
            String call = "seed " + seed + " from " + from + " to " + to + " n " + n + " by " + by;
            CHECKS.due(call + " ways", x.ways(from, to, n, by), all.size());
            isBest(call, model, x, x.best(from, to, n, by), from, to, Model.bestOf(all));
            barred(call, model, x, from, to, n, by);
            soonest(call, model, x, from, to, n);
            reached(call, model, x, from, n, by);
        }
    }

    private static void large(Model model, Watched x, int seed) {
        int from = model.random.nextInt(model.boards);
        int to = model.random.nextInt(model.boards);
        String call = "seed " + seed + " from " + from + " to " + to;
        BigInteger ways = model.ways(from, to, 8, 80);
        CHECKS.due(call + " ways", x.ways(from, to, 8, 80), ways.min(BigInteger.valueOf(1000000000)).longValue());
        isBest(call, model, x, x.best(from, to, 8, 80), from, to, model.best(from, to, 8, 80));
    }

    private static void isBest(String call, Model model, Watched x, int got, int from, int to, Model.Found best) {
        CHECKS.due(call + " best", got, best == null ? FlyingBars.NONE : best.worth());
        if (best == null || got == FlyingBars.NONE) {
            return;
        }
        CHECKS.due(call + " worth", x.plan(5), best.worth());
        CHECKS.due(call + " end", x.plan(3), best.end());
        CHECKS.due(call + " board", x.plan(2) * 10 + x.plan(4), from * 10 + to);
        CHECKS.due(call + " flights", x.has(5), best.flights());
        CHECKS.due(call + " tick", x.plan(0), best.row().get(0));
        CHECKS.due(call + " bar", x.plan(1), best.row().get(1));
        int bar = x.plan(1);
        for (int i = 0; i < best.flights() && i < x.has(5); i++) {
            for (int what = 0; what < 3; what++) {
                CHECKS.due(call + " step(" + i + ", " + what + ")", x.step(i, what), best.row().get(2 + 3 * i + what));
            }
            boolean again = i > 0 && x.step(i, 1) == x.step(i - 1, 1);
            int worth = model.worth(bar, x.step(i, 0), x.step(i, 1), x.step(i, 2), i, again);
            CHECKS.due(call + " step(" + i + ", 3)", x.step(i, 3), worth);
            bar = x.step(i, 2);
        }
    }

    private static void barred(String call, Model model, Watched x, int from, int to, int n, int by) {
        int plan = x.plan(3) * 100 + x.has(5);
        model.noBar = model.random.nextInt(model.bars);
        Model.Found best = model.best(from, to, n, by);
        CHECKS.due(call + " barred bar " + model.noBar, x.barred(from, to, n, by, false, model.noBar),
                best == null ? FlyingBars.NONE : best.worth());
        model.noBar = -1;
        if (model.tricks > 0) {
            model.noTrick = model.random.nextInt(model.tricks);
            best = model.best(from, to, n, by);
            CHECKS.due(call + " barred trick " + model.noTrick, x.barred(from, to, n, by, true, model.noTrick),
                    best == null ? FlyingBars.NONE : best.worth());
            model.noTrick = -1;
        }
        CHECKS.due(call + " the plan stays", x.plan(3) * 100 + x.has(5), plan);
    }

    private static void soonest(String call, Model model, Watched x, int from, int to, int n) {
        List<Model.Found> all = model.all(from, to, Math.min(n, 2), 80, 20000);
        if (all == null) {
            return;
        }
        int most = Math.min(n, 2);
        for (int m = 0; m <= most; m++) {
            int least = FlyingBars.NONE;
            for (Model.Found one : all) {
                if (one.flights() >= m && (least == FlyingBars.NONE || one.end() < least)) {
                    least = one.end();
                }
            }
            CHECKS.due(call + " soonest " + m + " " + most, x.soonest(from, to, m, most), least);
        }
        CHECKS.due(call + " soonest with m above n", x.soonest(from, to, most + 1, most), FlyingBars.NONE);
    }

    private static void reached(String call, Model model, Watched x, int from, int n, int by) {
        boolean[][] came = new boolean[model.bars][by + 1];
        for (int t = 0; t <= by; t++) {
            for (int b = 0; b < model.bars; b++) {
                if (model.by(b, from, t)) {
                    come(model, came, b, t, 0, -1, n, by);
                }
            }
        }
        int bits = 0;
        for (int b = 0; b < model.bars; b++) {
            for (boolean one : came[b]) {
                bits |= one ? 1 << b : 0;
            }
        }
        CHECKS.due(call + " reached", x.reached(from, n, by), bits);
    }

    private static void come(Model model, boolean[][] came, int bar, int tick, int done, int last, int n, int by) {
        came[bar][tick] = true;
        for (int t = tick; done < n && t <= by; t++) {
            for (int j = 0; j < model.tricks; j++) {
                for (int c = 0; c < model.bars; c++) {
                    if (t + model.ticks[j] <= by && model.good(bar, t, j, c, done, j == last)) {
                        come(model, came, c, t + model.ticks[j], done + 1, j, n, by);
                    }
                }
            }
        }
    }

    /** Two bars that stand still side by side: every flight is good, so all can be counted by hand. */
    private static void told() {
        String still = "bar a at 10 every 4 from 0 reach 0;bar b at 10 every 4 from 0 reach 0;board p at 15;board q at 16;";
        Watched x = Watched.made(still + "trick t ticks 1 arms 0 worth 5 * done - 3 * again when all;");
        CHECKS.due("BY at 5 apart", x.ways(0, 0, 0, 0), 2);
        CHECKS.due("not BY at 6 apart", x.ways(1, 1, 0, 80), 0);
        CHECKS.due("ways is told up to 10 to the 9", x.ways(0, 0, 8, 80), 1000000000);
        CHECKS.due("best", x.best(0, 0, 8, 80), 5 * 28 - 3 * 7);
        CHECKS.due("it ends soonest", x.plan(3), 8);
        CHECKS.due("worth of the first is 0, not below", x.step(0, 3), 0);
        CHECKS.due("worth of the last", x.step(7, 3), 32);
        CHECKS.due("fewest flights of like ones", x.best(0, 0, 1, 80) * 100 + x.has(5), 0);
        CHECKS.due("one trick alone, again", x.best(0, 0, 2, 2), 2);
        CHECKS.due("reached at once", x.reached(0, 0, 0), 3);
        x = Watched.made(still + "trick t ticks 20 arms 40 worth 1 when all;");
        CHECKS.due("four flights of 20 ticks come down at 80", x.best(0, 0, 8, 80), 4);
        CHECKS.due("but three by 79", x.best(0, 0, 8, 79), 3);
        CHECKS.due("soonest with four", x.soonest(0, 0, 4, 8), 80);
        CHECKS.due("none with five", x.soonest(0, 0, 5, 8), FlyingBars.NONE);
    }

    private static void lastTick() {
        Watched x = Watched.made("bar a at 10 every 4 from 0 reach 0;bar b at 10 every 4 from 0 reach 0;board p at 10;"
                + "trick t ticks 1 arms 0 worth 5 when tick>78;");
        CHECKS.due("a flight at tick 79", x.best(0, 0, 8, 80), 5);
        CHECKS.due("it comes down at 80", x.plan(3) * 100 + x.step(0, 0), 8079);
        CHECKS.due("soonest", x.soonest(0, 0, 1, 8), 80);
        CHECKS.due("none by 79", x.best(0, 0, 8, 79), 0);
        CHECKS.due("reached by 80 from a board by all bars", x.reached(0, 8, 80), 3);
    }

    private static String stillBars() {
        StringBuilder text = new StringBuilder("board p at 9;");
        for (int i = 0; i < 8; i++) {
            text.append("bar ").append((char) ('a' + i)).append(" at 9 every 4 from 0 reach 0;");
        }
        return text.toString();
    }

    /** Eight bars side by side and eight tricks, of which none may follow itself. */
    private static void fullRig() {
        StringBuilder text = new StringBuilder(stillBars());
        for (int i = 0; i < 8; i++) {
            text.append("trick t").append((char) ('a' + i)).append(" ticks 1 arms 0 worth ").append(i + 1)
                    .append(" when again=0;");
        }
        Watched x = Watched.made(text.toString());
        CHECKS.due("the two best tricks by turns", x.best(0, 0, 8, 80), 4 * 8 + 4 * 7);
        CHECKS.due("soonest", x.plan(3), 8);
        CHECKS.due("flights", x.has(5), 8);
        for (int i = 0; i < 8; i++) {
            CHECKS.due("tick", x.step(i, 0), i);
            CHECKS.due("trick", x.step(i, 1), 6 + i % 2);
            CHECKS.due("bar", x.step(i, 2), 1 - i % 2);
        }
        CHECKS.due("without the best trick", x.barred(0, 0, 8, 80, true, 7), 4 * 7 + 4 * 6);
        CHECKS.due("without a bar", x.barred(0, 0, 8, 80, false, 7), 60);
        CHECKS.due("ways", x.ways(0, 0, 1, 1), 8 * (2 + 7 * 8 + 1));
        // 8 * 7 * 8 first flights, 7 * 7 second ones each; an act of two takes ticks 0, 1 and ends at 2.
        CHECKS.due("ways with two", x.ways(0, 0, 2, 2) - x.ways(0, 0, 1, 2), 8 * 7 * 8 * 7 * 7);
        CHECKS.due("reached", x.reached(0, 0, 0), 255);
        CHECKS.due("soonest", x.soonest(0, 0, 8, 8), 8);
        text = new StringBuilder(stillBars());
        for (int i = 0; i < 8; i++) {
            text.append("trick t").append((char) ('a' + i)).append(" ticks 1 arms 0 worth 1 when again=0 and ")
                    .append(i).append("=7;");
        }
        x = Watched.made(text.toString());
        CHECKS.due("the last trick alone", x.soonest(0, 0, 1, 8), 1);
        CHECKS.due("not twice", x.soonest(0, 0, 2, 8), FlyingBars.NONE);
    }

    private static void refused() {
        Watched x = Watched.made("bar a at 10 every 4 from 0 reach 0;board p at 10;trick t ticks 1 arms 0 worth 1 when all;");
        int[][] wrong = {{1, 0, 0, 0}, {-1, 0, 0, 0}, {0, 1, 0, 0}, {0, -1, 0, 0}, {0, 0, 9, 0}, {0, 0, -1, 0},
            {0, 0, 0, 81}, {0, 0, 0, -1}};
        for (int[] w : wrong) {
            CHECKS.due("best", x.best(w[0], w[1], w[2], w[3]), FlyingBars.NONE);
            CHECKS.due("ways", x.ways(w[0], w[1], w[2], w[3]), FlyingBars.NONE);
            CHECKS.due("fill", x.fill(w[0], w[1], w[2], w[3]), FlyingBars.NONE);
            CHECKS.due("barred", x.barred(w[0], w[1], w[2], w[3], false, 0), FlyingBars.NONE);
        }
        CHECKS.due("plan", x.plan(0), FlyingBars.NONE);
        CHECKS.due("best", x.best(0, 0, 8, 80), 0);
        CHECKS.due("barred bar", x.barred(0, 0, 0, 0, false, 1), FlyingBars.NONE);
        CHECKS.due("barred bar", x.barred(0, 0, 0, 0, false, -1), FlyingBars.NONE);
        CHECKS.due("barred trick", x.barred(0, 0, 0, 0, true, 1), FlyingBars.NONE);
        CHECKS.due("barred trick", x.barred(0, 0, 0, 0, true, 0), 0);
        CHECKS.due("soonest", x.soonest(1, 0, 0, 0), FlyingBars.NONE);
        CHECKS.due("soonest", x.soonest(0, 1, 0, 0), FlyingBars.NONE);
        CHECKS.due("soonest", x.soonest(0, 0, -1, 0), FlyingBars.NONE);
        CHECKS.due("soonest", x.soonest(0, 0, 0, 9), FlyingBars.NONE);
        CHECKS.due("soonest", x.soonest(0, 0, 0, 8), 0);
        CHECKS.due("reached", x.reached(1, 0, 0), FlyingBars.NONE);
        CHECKS.due("reached", x.reached(0, 9, 0), FlyingBars.NONE);
        CHECKS.due("reached", x.reached(0, 0, 81), FlyingBars.NONE);
    }
}
