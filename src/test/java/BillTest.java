import java.util.Arrays;

/** Promises 26 to 37: the bill and its images, by hand and against a stage on which acts are laid beside each other. */
public final class BillTest {
    private static final Checks CHECKS = new Checks();
    private static final int NONE = FlyingBars.NONE;
    private static final String STILL = "bar a at 9 every 4 from 0 reach 0;bar b at 9 every 4 from 0 reach 0;board p at 9;";

    private static int quarrels;
    private static int failures;
    private static int slacks;
    private static int fills;

    public static void main(String[] args) {
        byHand();
        inTheAir();
        onBars();
        steps();
        slackByPeriods();
        lastShift();
        eightFlights();
        filling();
        images();
        for (int seed = 0; seed < 500; seed++) {
            against(new Stage(new Model(seed, 4, 3)), "seed " + seed);
        }
        CHECKS.due("the runs had quarrels", quarrels > 200, true);
        CHECKS.due("the runs had failing acts", failures > 200, true);
        CHECKS.due("the runs had slack", slacks > 200, true);
        CHECKS.due("the runs had filling", fills > 200, true);
        CHECKS.finish();
    }

    private static void byHand() {
        Watched x = Watched.made(STILL + "trick k ticks 3 arms 0 worth tick+5 when tick<90;");
        CHECKS.due("book without a plan", x.book(0), NONE);
        CHECKS.due("shift without a plan", x.shift(), NONE);
        CHECKS.due("take", x.take(0, 2, 0), true);
        CHECKS.due("book a plan that has not gone down", x.book(0), NONE);
        CHECKS.due("shift of such", x.shift(), NONE);
        CHECKS.due("fly", x.fly(5, 0, 1), true);
        CHECKS.due("down", x.down(10, 0), true);
        CHECKS.due("book(-1)", x.book(-1), NONE);
        CHECKS.due("book(401)", x.book(401), NONE);
        CHECKS.due("not good so late", x.book(85), NONE);
        CHECKS.due("good so late", x.book(84), 1);
        CHECKS.due("worth as told, not as it is so late", x.bill(0), 10);
        CHECKS.due("the last tick", x.bill(1), 94);
        CHECKS.due("shift", x.shift(), 0);
        CHECKS.due("book", x.book(0), 2);
        CHECKS.due("most flyers", x.bill(2), 1);
        CHECKS.due("bill(-1)", x.bill(-1), NONE);
        CHECKS.due("bill(3)", x.bill(3), NONE);
        int[] at = {NONE, NONE, 0, 0, 0, 0, 10, 10, 1, 1, 1, NONE};
        for (int t = 0; t < at.length; t++) {
            CHECKS.due("at(1, " + t + ")", x.at(1, t), at[t]);
            CHECKS.due("at(0, " + (84 + t) + ")", x.at(0, 84 + t), at[t]);
        }
        CHECKS.due("at(-1, 2)", x.at(-1, 2), NONE);
        CHECKS.due("at(2, 2)", x.at(2, 2), NONE);
        CHECKS.due("at(1, -1)", x.at(1, -1), NONE);
        CHECKS.due("at(1, 501)", x.at(1, 501), NONE);
        CHECKS.due("quarrel", x.quarrel(0, 1), NONE);
        CHECKS.due("quarrel of one", x.quarrel(0, 0), NONE);
        CHECKS.due("quarrel of none such", x.quarrel(0, 2), NONE);
        CHECKS.due("quarrel of none such", x.quarrel(-1, 0), NONE);
        // Bar a is held at 2 .. 5, bar b at 8 .. 10; two fly at one place at 6 and 7.
        CHECKS.due("shift", x.shift(), 4);
        CHECKS.due("book", x.book(3), 3);
        CHECKS.due("quarrel at the tick at which one goes", x.quarrel(1, 2), 5);
        CHECKS.due("quarrel either way", x.quarrel(2, 1), 5);
        CHECKS.due("unbook", x.unbook(), 2);
        CHECKS.due("book", x.book(4), 3);
        CHECKS.due("no quarrel", x.quarrel(1, 2), NONE);
        CHECKS.due("most flyers", x.bill(2), 2);
        CHECKS.due("worth", x.bill(0), 30);
        CHECKS.due("unbook", x.unbook(), 2);
        CHECKS.due("unbook", x.unbook(), 1);
        CHECKS.due("unbook", x.unbook(), 0);
        CHECKS.due("unbook", x.unbook(), NONE);
        CHECKS.due("bill(0)", x.bill(0) + x.bill(1) + x.bill(2), 0);
        for (int i = 1; i <= 6; i++) {
            CHECKS.due("book", x.book(0), i);
        }
        CHECKS.due("a 7th", x.book(50), NONE);
        CHECKS.due("shift all the same", x.shift(), 4);
        CHECKS.due("most flyers", x.bill(2), 6);
    }

    /** Four still bars in a row; two flyers between them meet or pass. */
    private static void inTheAir() {
        for (int apart = 0; apart <= 4; apart++) {
            int other = 100 + apart;
            Watched x = Watched.made("bar a at 100 every 4 from 0 reach 0;bar b at 100 every 4 from 0 reach 0;"
                    + "bar c at " + other + " every 4 from 0 reach 0;bar d at " + other + " every 4 from 0 reach 0;"
                    + "board p at 102;trick k ticks 4 arms 0 worth 1 when all;trick one ticks 1 arms 0 worth 1 when all;");
            CHECKS.due("first", x.take(0, 0, 0) && x.fly(2, 0, 1) && x.down(9, 0), true);
            CHECKS.due("book", x.book(0), 1);
            CHECKS.due("second", x.take(0, 1, 2) && x.fly(4, 0, 3) && x.down(9, 0), true);
            CHECKS.due("book", x.book(0), 2);
            CHECKS.due("in the air " + apart + " apart", x.quarrel(0, 1), apart <= 2 ? 5 : NONE);
            CHECKS.due("shift " + apart, x.unbook() == 1 ? x.shift() : 9, apart <= 2 ? 1 : 0);
            CHECKS.due("third", x.take(0, 1, 2) && x.fly(4, 1, 3) && x.down(9, 0), true);
            CHECKS.due("a flight of one tick is never in the air", x.shift(), 0);
        }
    }

    private static void onBars() {
        Watched x = Watched.made(STILL + "trick k ticks 2 arms 0 worth 1 when all;");
        CHECKS.due("first", x.take(0, 0, 0) && x.fly(4, 0, 1) && x.down(8, 0), true);
        CHECKS.due("book", x.book(10), 1);
        CHECKS.due("up to the tick at which one comes", x.take(0, 10, 1) && x.down(15, 0) && x.book(0) == 2, true);
        CHECKS.due("well", x.quarrel(0, 1), NONE);
        CHECKS.due("from that tick on", x.take(0, 10, 1) && x.down(16, 0) && x.book(0) == 3, true);
        CHECKS.due("quarrel", x.quarrel(0, 2), 16);
        CHECKS.due("behind the tick at which it goes down", x.take(0, 19, 1) && x.down(20, 0) && x.book(0) == 4, true);
        CHECKS.due("well", x.quarrel(0, 3), NONE);
        CHECKS.due("at that tick", x.take(0, 18, 1) && x.down(20, 0) && x.book(0) == 5, true);
        CHECKS.due("quarrel", x.quarrel(4, 0), 18);
        CHECKS.due("hanging and flying do not meet", x.take(0, 15, 0) && x.down(18, 0) && x.book(0) == 6, true);
        CHECKS.due("well", x.quarrel(0, 5), NONE);
    }

    private static void steps() {
        Watched x = Watched.made("bar a at 9 every 4 from 0 reach 0;bar b at 9 every 4 from 0 reach 0;board p at 9;board q at 9;"
                + "bar c at 9 every 4 from 0 reach 0;trick k ticks 3 arms 4 worth 1 when all;");
        CHECKS.due("plan", x.take(0, 0, 0) && x.fly(1, 0, 1) && x.fly(6, 0, 2) && x.down(12, 1), true);
        CHECKS.due("book", x.book(5), 1);
        CHECKS.due("fails", x.fails(0), NONE);
        CHECKS.due("fails of none such", x.fails(1), NONE);
        CHECKS.due("fails of none such", x.fails(-1), NONE);
        CHECKS.due("change", x.change(0, 40, 35, 60), true);
        CHECKS.due("taking fails", x.fails(0), 0);
        CHECKS.due("change", x.change(0, 4, 0, 0), true);
        CHECKS.due("change", x.change(1, 40, 31, 60), true);
        CHECKS.due("the first flight fails", x.fails(0), 1);
        // Bar b goes by its place at tick 9, where it is caught, and then on.
        CHECKS.due("change", x.change(1, 40, 1, 60), true);
        CHECKS.due("where", x.where(1, 9), 9);
        CHECKS.due("the second flight fails", x.fails(0), 2);
        CHECKS.due("change", x.change(1, 4, 0, 0), true);
        // Bar c is caught at tick 14 and elsewhere at tick 17.
        CHECKS.due("change", x.change(2, 40, 36, 60), true);
        CHECKS.due("where", x.where(2, 14), 9);
        CHECKS.due("going down fails", x.fails(0), 3);
        CHECKS.due("change", x.change(2, 4, 0, 0), true);
        CHECKS.due("fails", x.fails(0), NONE);
    }

    private static void slackByPeriods() {
        Watched x = Watched.made("bar a at 10 every 8 from 39 reach 10;board p at 20;");
        CHECKS.due("plan", x.take(0, 1, 0) && x.down(1, 0) && x.book(0) == 1, true);
        // At 20 it is for one tick of eight, at 15 for the one behind: 20 15 10 5 0 5 10 15.
        CHECKS.due("grows", x.slack(0, 0, true), 2);
        CHECKS.due("falls", x.slack(0, 0, false), 2);
        CHECKS.due("the phase stays", x.where(0, 1), 20);
        CHECKS.due("change", x.change(0, 8, 0, 10), true);
        CHECKS.due("grows", x.slack(0, 0, true), 1);
        CHECKS.due("falls, below 0", x.slack(0, 0, false), 3);
        CHECKS.due("the phase stays", x.where(0, 0), 20);
        CHECKS.due("no bar", x.slack(0, 1, true), NONE);
        CHECKS.due("no bar", x.slack(0, -1, true), NONE);
        CHECKS.due("no act", x.slack(1, 0, true), NONE);
        CHECKS.due("change", x.change(0, 8, 3, 10), true);
        CHECKS.due("it fails as it is", x.slack(0, 0, true), NONE);
        CHECKS.due("change", x.change(0, 8, 3, 0), true);
        CHECKS.due("it fails as it is", x.fails(0), 0);
        x = Watched.made("bar a at 10 every 8 from 39 reach 2;board p at 10;");
        CHECKS.due("plan", x.take(0, 1, 0) && x.down(1, 0) && x.book(0) == 1, true);
        CHECKS.due("never", x.slack(0, 0, true), NONE);
        // At 5 it is for one tick of forty, else within 5 of the board.
        x = Watched.made("bar a at 10 every 40 from 1 reach 5;board p at 11;bar b at 5 every 4 from 0 reach 0;");
        CHECKS.due("where", x.where(0, 19), 5);
        CHECKS.due("plan", x.take(0, 20, 0) && x.down(20, 0) && x.book(0) == 1, true);
        CHECKS.due("grows by 39", x.slack(0, 0, true), 39);
        CHECKS.due("falls by 1", x.slack(0, 0, false), 1);
        CHECKS.due("another bar", x.slack(0, 1, false), NONE);
    }

    private static void lastShift() {
        Watched x = Watched.made(STILL + "trick k ticks 2 arms 0 worth 1 when tick=3 or tick=403;");
        CHECKS.due("plan", x.take(0, 0, 0) && x.fly(3, 0, 1) && x.down(5, 0) && x.book(0) == 1, true);
        CHECKS.due("shift", x.shift(), 400);
        CHECKS.due("book", x.book(400), 2);
        CHECKS.due("the last tick", x.bill(1), 405);
        CHECKS.due("at", x.at(1, 404), 10);
        CHECKS.due("none any more", x.shift(), NONE);
        CHECKS.due("fill finds none", x.fill(0, 0, 1, 5), 0);
    }

    private static void eightFlights() {
        Watched x = Watched.made(STILL + "trick k ticks 1 arms 0 worth 1000 when all;");
        CHECKS.due("take", x.take(0, 0, 0), true);
        for (int i = 0; i < 8; i++) {
            CHECKS.due("fly", x.fly(i, 0, 1 - i % 2), true);
        }
        CHECKS.due("down", x.down(80, 0) && x.book(0) == 1, true);
        CHECKS.due("at the last bar", x.at(0, 80), 0);
        CHECKS.due("plan", x.take(0, 70, 0) && x.down(80, 0) && x.book(0) == 2, true);
        CHECKS.due("quarrel on the last bar", x.quarrel(0, 1), 70);
        CHECKS.due("plan", x.take(0, 70, 1) && x.down(80, 0) && x.book(0) == 3, true);
        CHECKS.due("none on the other", x.quarrel(0, 2), NONE);
        CHECKS.due("worth", x.bill(0), 8000);
        while (x.unbook() > 1) {
            continue;
        }
        CHECKS.due("take", x.take(0, 0, 0), true);
        for (int i = 0; i < 8; i++) {
            CHECKS.due("fly", x.fly(i, 0, 1 - i % 2), true);
        }
        CHECKS.due("down", x.down(80, 0), true);
        for (int i = 2; i <= 6; i++) {
            CHECKS.due("book", x.book(0), i);
        }
        CHECKS.due("the longest image", x.image(), 2 + 6 * (8 + 5 * 8));
        CHECKS.due("on", x.on(x.imageBytes()), true);
        CHECKS.due("worth", x.bill(0), 48000);
    }

    private static void filling() {
        Watched x = Watched.made(STILL + "trick k ticks 3 arms 0 worth 5 when all;");
        CHECKS.due("take", x.take(0, 9, 0), true);
        CHECKS.due("fill", x.fill(0, 0, 1, 80), 6);
        CHECKS.due("the best is the plan", x.plan(0) * 100 + x.plan(3), 3);
        // In the air at ticks 1 and 2: the next one may let go two ticks later.
        CHECKS.due("shifts", x.bill(1), 5 * 2 + 3);
        CHECKS.due("fill with 6", x.fill(0, 0, 1, 80), 0);
        CHECKS.due("fill that can't be", x.fill(0, 1, 1, 80), NONE);
        x = Watched.made("bar a at 9 every 4 from 0 reach 0;board p at 9;board q at 90;");
        CHECKS.due("plan", x.take(0, 9, 0), true);
        CHECKS.due("no best", x.fill(0, 1, 1, 80), 0);
        CHECKS.due("the plan stays", x.plan(0), 9);
        x = Watched.made("bar a at 90 every 40 from 0 reach 60;board p at 150;board q at 50;");
        // From 150 down to 50 and back: an act of some 16 ticks, once in 40; ten of them go up to 400.
        int came = x.fill(0, 1, 0, 80);
        CHECKS.due("fill", came, 6);
        CHECKS.due("once in 40", x.bill(1) - x.plan(3), 200);
    }

    private static final String IMAGE_RIG = STILL + "board q at 11;trick k ticks 3 arms 0 worth 900 when all;";

    private static void images() {
        Watched x = Watched.made(IMAGE_RIG);
        CHECKS.due("octet ahead of any", x.octet(0), NONE);
        CHECKS.due("plan", x.take(1, 2, 1) && x.fly(4, 0, 0) && x.fly(9, 0, 1) && x.down(70, 0), true);
        CHECKS.due("book", x.book(300), 1);
        CHECKS.due("plan", x.take(0, 80, 0) && x.down(80, 1) && x.book(0) == 2, true);
        int[] want = {2, 1, 44, 1, 2, 1, 2, 4, 0, 0, 3, 132, 9, 0, 1, 3, 132, 70, 0, 0, 0, 0, 80, 0, 0, 80, 1};
        byte[] sealed = Checks.sealed(want);
        CHECKS.due("image", x.image(), sealed.length);
        for (int k = 0; k < sealed.length; k++) {
            CHECKS.due("octet(" + k + ")", x.octet(k), sealed[k] & 255);
        }
        CHECKS.due("octet behind", x.octet(sealed.length), NONE);
        CHECKS.due("octet(-1)", x.octet(-1), NONE);
        CHECKS.due("unbook", x.unbook() + x.unbook(), 1);
        CHECKS.due("the latest image stays", x.octet(0), 2);
        CHECKS.due("on", x.on(sealed), true);
        CHECKS.due("the tape went", x.end(1), false);
        CHECKS.due("acts", x.has(4), 2);
        CHECKS.due("at", x.at(0, 305), 10);
        CHECKS.due("worth", x.bill(0), 1800);
        CHECKS.due("the plan stays", x.plan(0), 80);
        changedImages(want);
        wrongImages(x, want);
    }

    private static void changedImages(int[] want) {
        // k, what to put there instead, whether it is taken.
        int[][] changes = {{0, 1, 0}, {0, 3, 0}, {0, 7, 0}, {1, 2, 0}, {2, 145, 0}, {2, 255, 0}, {3, 2, 0},
            {3, 0, 1}, {4, 5, 0}, {4, 4, 1}, {5, 2, 0}, {5, 0, 0}, {6, 1, 0}, {6, 9, 0}, {7, 1, 0}, {7, 6, 1}, {7, 7, 0},
            {8, 1, 0}, {9, 1, 0}, {9, 2, 0}, {10, 4, 0}, {11, 233, 0}, {11, 232, 1}, {12, 6, 0}, {12, 7, 1},
            {12, 68, 0}, {12, 67, 1}, {13, 1, 0}, {14, 0, 0}, {15, 0, 1}, {17, 11, 0}, {17, 12, 1}, {17, 80, 1},
            {17, 81, 0}, {18, 1, 1}, {18, 2, 0}, {22, 81, 0}, {25, 79, 0}, {26, 2, 0}, {26, 0, 1}};
        for (int[] change : changes) {
            int[] other = want.clone();
            other[change[0]] = change[1];
            boolean taken = change[2] == 1;
            String call = "on with " + change[1] + " at " + change[0];
            Watched x = Watched.made(IMAGE_RIG);
            CHECKS.due("on", x.on(Checks.sealed(want)), true);
            CHECKS.due(call, x.on(Checks.sealed(other)), taken);
            byte[] left = x.imageBytes();
            CHECKS.due(call + " as written", left.length, want.length + 1);
            CHECKS.due(call + " as read", left[change[0]] & 255, taken ? change[1] : want[change[0]]);
        }
    }

    private static void wrongImages(Watched x, int[] want) {
        byte[] wrongEnd = Checks.sealed(want);
        wrongEnd[want.length] ^= 1;
        CHECKS.due("another last byte", x.on(wrongEnd), false);
        byte[] longer = Arrays.copyOf(Checks.sealed(want), want.length + 2);
        CHECKS.due("a byte more", x.on(longer), false);
        CHECKS.due("a byte less", x.on(Arrays.copyOf(longer, want.length)), false);
        CHECKS.due("no byte", x.on(new byte[0]), false);
        CHECKS.due("one byte", x.on(new byte[] {0}), false);
        CHECKS.due("acts stay", x.has(4), 2);
        CHECKS.due("an act cut off", x.on(Checks.sealed(1, 0, 0, 9, 0, 0, 0)), false);
        CHECKS.due("a flight cut off", x.on(Checks.sealed(1, 0, 0, 0, 0, 0, 1, 0, 9, 1, 0, 0)), false);
        CHECKS.due("acts stay", x.has(4), 2);
        CHECKS.due("an empty one", x.on(Checks.sealed(0)), true);
        CHECKS.due("no acts", x.has(4), 0);
        int[] bad = {1, 0, 0, 1, 2, 1, 0, 3, 0};
        CHECKS.due("good or not", x.change(1, 40, 0, 60) && x.on(Checks.sealed(bad)), true);
        CHECKS.due("it fails", x.fails(0), 0);
    }

    private static void against(Stage stage, String seed) {
        Model model = stage.model;
        Watched x = Watched.made(model.text);
        for (int round = 0; round < 8; round++) {
            int from = model.random.nextInt(model.boards);
            int to = model.random.nextInt(model.boards);
            int n = model.random.nextInt(4);
            int by = 10 + model.random.nextInt(40);
            CHECKS.due(seed + " best", x.best(from, to, n, by), stage.best(from, to, n, by));
            if (stage.plan == null) {
                continue;
            }
            int least = stage.shift();
            CHECKS.due(seed + " shift", x.shift(), least);
            int shift = anyShift(stage, least);
            CHECKS.due(seed + " book", x.book(shift), stage.book(shift));
            if (stage.bill.size() > 3 && model.random.nextInt(3) == 0) {
                CHECKS.due(seed + " unbook", x.unbook(), stage.unbook());
            }
            look(stage, x, seed);
            sway(stage, x);
            if (model.random.nextInt(3) == 0) {
                fill(stage, x, seed, from, to);
            }
            x = reread(stage, x, seed);
        }
    }

    /** Often a small one by which the plan is good, so that acts come to quarrel. */
    private static int anyShift(Stage stage, int least) {
        Model model = stage.model;
        int shift = least != NONE && model.random.nextBoolean() ? least : model.random.nextInt(401);
        for (int s = 0; stage.bill.size() > 1 && model.random.nextInt(3) > 0 && s < 40; s++) {
            shift = stage.isGoodBy(s) ? s : shift;
        }
        return shift;
    }

    private static void look(Stage stage, Watched x, String seed) {
        Model model = stage.model;
        for (int i = 0; i < stage.bill.size(); i++) {
            for (int j = 0; j < stage.bill.size(); j++) {
                int first = stage.quarrel(i, j);
                quarrels += first == NONE ? 0 : 1;
                CHECKS.due(seed + " quarrel", x.quarrel(i, j), first);
            }
            int fails = stage.fails(i);
            failures += fails == NONE ? 0 : 1;
            CHECKS.due(seed + " fails", x.fails(i), fails);
            for (int bar = 0; bar < model.bars; bar++) {
                boolean grows = model.random.nextBoolean();
                int slack = stage.slack(i, bar, grows);
                slacks += slack > 1 ? 1 : 0;
                CHECKS.due(seed + " slack", x.slack(i, bar, grows), slack);
            }
            for (int k = 0; k < 4; k++) {
                int tick = stage.bill.get(i).tick() + stage.bill.get(i).shift() - 2 + model.random.nextInt(25);
                CHECKS.due(seed + " at", x.at(i, tick), stage.at(i, tick));
            }
        }
        for (int what = 0; what < 3; what++) {
            CHECKS.due(seed + " bill(" + what + ")", x.bill(what), stage.bill(what));
        }
    }

    private static void sway(Stage stage, Watched x) {
        Model model = stage.model;
        int bar = model.random.nextInt(model.bars);
        if (model.random.nextInt(3) == 0) {
            stage.change(bar, model.period[bar], model.random.nextInt(40), model.random.nextInt(30));
            x.change(bar, model.period[bar], model.phase[bar], model.reach[bar]);
        }
    }

    private static void fill(Stage stage, Watched x, String seed, int from, int to) {
        int came = stage.fill(from, to, 2, 30);
        fills += came > 0 ? 1 : 0;
        CHECKS.due(seed + " fill", x.fill(from, to, 2, 30), came);
        CHECKS.due(seed + " plan(3)", x.plan(3), stage.plan(3));
        CHECKS.due(seed + " plan(5)", x.plan(5), stage.plan(5));
        look(stage, x, seed);
    }

    /** The bill goes on in a new object, as its image tells it, without a plan; another one tells the same image. */
    private static Watched reread(Stage stage, Watched x, String seed) {
        Model model = stage.model;
        byte[] image = x.imageBytes();
        Watched next = Watched.made(model.text);
        for (int bar = 0; bar < model.bars; bar++) {
            next.change(bar, model.period[bar], model.phase[bar], model.reach[bar]);
        }
        CHECKS.due(seed + " on", next.on(image), true);
        CHECKS.due(seed + " acts", next.has(4), x.has(4));
        stage.plan = null;
        Watched other = Watched.made(model.text);
        other.on(image);
        CHECKS.due(seed + " the same image", Arrays.equals(image, other.imageBytes()), true);
        return next;
    }
}
