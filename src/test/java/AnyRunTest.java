import java.util.ArrayList;
import java.util.List;
import java.util.Random;

/**
 * Whole runs of mixed calls on one rig, against a stage that works everything out anew: promises 8 and 14 to 37, each
 * behind whatever the calls ahead of it left.
 */
public final class AnyRunTest {
    private static final Checks CHECKS = new Checks();
    private static final int RUNS = 250;
    private static final int LAST_CALLS = 440;
    private static final int[] EDGES = {Integer.MIN_VALUE, -2, -1, 8, 9, 81, 401, 501, Integer.MAX_VALUE};

    private final long seed;
    private final Random random;
    private final Model model;
    private final Stage stage;
    private final Watched x;

    private AnyRunTest(long seed) {
        this.seed = seed;
        model = new Model(seed, 4, 3);
        random = new Random(seed + 1000);
        stage = new Stage(model);
        x = Watched.made(model.text);
    }

    public static void main(String[] args) {
        for (int run = 0; run < RUNS; run++) {
            AnyRunTest one = new AnyRunTest(run);
            while (one.x.calls() < LAST_CALLS) {
                one.next();
            }
        }
        CHECKS.finish();
    }

    private void due(String call, long got, long want) {
        CHECKS.due("run " + seed + ", call " + x.calls() + ": " + call, got, want);
    }

    private void due(String call, boolean got, boolean want) {
        due(call, got ? 1 : 0, want ? 1 : 0);
    }

    /** Mostly one of so many, now and then what can't be. */
    private int one(int count) {
        return count < 1 || random.nextInt(25) == 0 ? EDGES[random.nextInt(EDGES.length)] : random.nextInt(count);
    }

    private void next() {
        switch (random.nextInt(14)) {
            case 0 -> seekBest();
            case 1 -> seekOthers();
            case 2 -> change();
            case 3, 4 -> take();
            case 5, 6 -> fly();
            case 7 -> down();
            case 8 -> lookAtPlan();
            case 9 -> book();
            case 10 -> fillOrUnbook();
            case 11 -> lookAtActs();
            case 12 -> lookAtBill();
            default -> images();
        }
    }

    private void seekBest() {
        int from = one(model.boards);
        int to = one(model.boards);
        int n = one(5);
        int by = random.nextBoolean() ? 80 : one(81);
        due("best " + from + " " + to + " " + n + " " + by, x.best(from, to, n, by), stage.best(from, to, n, by));
    }

    private void seekOthers() {
        int from = one(model.boards);
        int to = one(model.boards);
        int m = one(3);
        int n = one(5);
        int by = one(81);
        boolean trick = random.nextBoolean();
        int which = one(trick ? model.tricks : model.bars);
        String asked = from + " " + to + " " + n + " ";
        due("ways " + asked + by, x.ways(from, to, n, by), stage.ways(from, to, n, by));
        due("soonest with at least " + m + ": " + asked, x.soonest(from, to, m, n), stage.soonest(from, to, m, n));
        due("reached " + asked + by, x.reached(from, n, by), stage.reached(from, n, by));
        due("barred " + asked + by + " " + trick + " " + which, x.barred(from, to, n, by, trick, which),
                stage.barred(from, to, n, by, trick, which));
    }

    /** Mostly only the phase goes, so that acts on the bill have a chance. */
    private void change() {
        int bar = one(model.bars);
        boolean other = random.nextInt(4) == 0;
        int period = other || !stage.isBar(bar) ? 4 + one(37) : model.period[bar];
        int phase = random.nextInt(3) == 0 && stage.isBar(bar) ? model.phase[bar] : one(40);
        int reach = other || !stage.isBar(bar) ? one(61) : model.reach[bar];
        due("change " + bar + " " + period + " " + phase + " " + reach, x.change(bar, period, phase, reach),
                stage.change(bar, period, phase, reach));
        due("where", x.where(0, 7), model.where(0, 7));
    }

    private void take() {
        int board = one(model.boards);
        int bar = one(model.bars);
        int tick = one(40);
        for (int t = 0; t < 40 && stage.isBoard(board) && stage.isBar(bar) && random.nextInt(9) > 0; t++) {
            tick = model.by(bar, board, t) ? t : tick;
        }
        due("take " + board + " " + tick + " " + bar, x.take(board, tick, bar), stage.take(board, tick, bar));
    }

    private void fly() {
        List<int[]> good = new ArrayList<>();
        for (int tick = 0; tick <= 80 && good.size() < 12; tick++) {
            for (int trick = 0; trick < model.tricks; trick++) {
                for (int to = 0; to < model.bars; to++) {
                    if (stage.canFly(tick, trick, to)) {
                        good.add(new int[] {tick, trick, to});
                    }
                }
            }
        }
        int[] any = {one(81), one(model.tricks), one(model.bars)};
        int[] told = good.isEmpty() || random.nextInt(5) == 0 ? any : good.get(random.nextInt(good.size()));
        due("fly " + told[0] + " " + told[1] + " " + told[2], x.fly(told[0], told[1], told[2]),
                stage.fly(told[0], told[1], told[2]));
    }

    private void down() {
        List<int[]> good = new ArrayList<>();
        for (int tick = 0; tick <= 80 && good.size() < 6; tick++) {
            for (int board = 0; board < model.boards; board++) {
                if (stage.canGoDown(tick, board)) {
                    good.add(new int[] {tick, board});
                }
            }
        }
        int[] any = {one(81), one(model.boards)};
        int[] told = good.isEmpty() || random.nextInt(5) == 0 ? any : good.get(random.nextInt(good.size()));
        due("down " + told[0] + " " + told[1], x.down(told[0], told[1]), stage.down(told[0], told[1]));
    }

    private void lookAtPlan() {
        int flights = stage.plan == null ? 0 : stage.plan.flights().size();
        due("has(5)", x.has(5), flights);
        for (int what = -1; what <= 6; what++) {
            due("plan " + what, x.plan(what), stage.plan(what));
        }
        int i = one(flights);
        for (int what = -1; what <= 4; what++) {
            due("step " + i + " " + what, x.step(i, what), stage.step(i, what));
        }
    }

    private void book() {
        List<Integer> good = new ArrayList<>(List.of(one(401)));
        for (int shift = 0; shift <= 400 && random.nextInt(60) > 0; shift++) {
            if (stage.isGoodBy(shift)) {
                good.add(shift);
            }
        }
        for (int times = random.nextInt(3); times >= 0; times--) {
            int shift = good.get(random.nextInt(Math.min(5, good.size())));
            due("book " + shift, x.book(shift), stage.book(shift));
        }
        due("shift", x.shift(), stage.shift());
    }

    private void fillOrUnbook() {
        for (int times = random.nextInt(4); times > 0; times--) {
            due("unbook", x.unbook(), stage.unbook());
        }
        int from = one(model.boards);
        int to = one(model.boards);
        int n = one(4);
        if (random.nextBoolean()) {
            due("fill " + from + " " + to + " " + n, x.fill(from, to, n, 80), stage.fill(from, to, n, 80));
        }
    }

    private void lookAtActs() {
        int first = one(stage.bill.size());
        int second = one(stage.bill.size());
        int bar = one(model.bars);
        boolean grows = random.nextBoolean();
        due("quarrel " + first + " " + second, x.quarrel(first, second), stage.quarrel(first, second));
        due("fails " + first, x.fails(first), stage.fails(first));
        due("slack " + first + " " + bar + " " + grows, x.slack(first, bar, grows), stage.slack(first, bar, grows));
        int begin = stage.isAct(first) ? stage.bill.get(first).shift() + stage.bill.get(first).tick() - 1 : 0;
        for (int tick = begin; tick < begin + 12; tick++) {
            due("at " + first + " " + tick, x.at(first, tick), stage.at(first, tick));
        }
    }

    private void lookAtBill() {
        due("has(4)", x.has(4), stage.bill.size());
        for (int what = -1; what <= 3; what++) {
            due("bill " + what, x.bill(what), stage.bill(what));
        }
    }

    private void images() {
        if (random.nextBoolean()) {
            lookAtImage();
            return;
        }
        Stage told = new Stage(model);
        for (int acts = random.nextInt(7); acts > 0; acts--) {
            told.bill.add(anyAct());
        }
        told.image();
        byte[] bytes = new byte[told.image.length];
        for (int i = 0; i < bytes.length; i++) {
            bytes[i] = (byte) told.image[i];
        }
        boolean whole = random.nextInt(4) > 0;
        if (!whole) {
            bytes[random.nextInt(bytes.length)] += 1;
        }
        due("on", x.on(bytes), whole);
        stage.bill = whole ? told.bill : stage.bill;
        lookAtBill();
    }

    private void lookAtImage() {
        due("image", x.image(), stage.image());
        for (int k = 0; k < 20; k++) {
            int which = k < 10 ? stage.image.length - 1 - k : one(stage.image.length + 1);
            due("octet " + which, x.octet(which), stage.octet(which));
        }
    }

    /** An act that an image may tell: its flights need not be good. */
    private Stage.Act anyAct() {
        int shift = random.nextInt(random.nextBoolean() ? 401 : 3);
        Stage.Act act = new Stage.Act(shift, random.nextInt(model.boards), random.nextInt(9), random.nextInt(model.bars),
                List.of(), Stage.NONE, Stage.NONE);
        for (int flights = random.nextInt(9); flights > 0 && model.tricks > 0 && model.bars > 1; flights--) {
            int trick = random.nextInt(model.tricks);
            int to = (act.lastBar() + 1 + random.nextInt(model.bars - 1)) % model.bars;
            int tick = stage.came(act) + random.nextInt(4);
            if (tick + model.ticks[trick] <= 80) {
                act = act.with(new Stage.Flown(tick, trick, to, random.nextInt(1001)));
            }
        }
        int came = stage.came(act);
        return act.wentDown(came + random.nextInt(Math.min(9, 81 - came)), random.nextInt(model.boards));
    }
}
