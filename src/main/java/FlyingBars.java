import java.util.Arrays;

/**
 * Flying bars: a rig of swinging bars, boards and tricks told as a text, the acts that flyers can
 * do on it, a plan at hand, and a bill of acts laid beside each other.
 *
 * <p>Big rows are made once and used again, so that a long run of calls makes next to nothing new.
 */
public final class FlyingBars {
    public static final int NONE = -1;

    private static final int NOWHERE = -1000000000;
    private static final int CEILING = 1000000000;
    private static final int MOST_BARS = 8;
    private static final int MOST_BOARDS = 4;
    private static final int MOST_TRICKS = 8;
    private static final int MOST_STATEMENTS = 30;
    private static final int MOST_FLIGHTS = 8;
    private static final int MOST_ACTS = 6;
    private static final int MOST_OPEN = 6;
    private static final int MOST_WORTH = 1000;
    private static final int LAST_TICK = 80;
    private static final int ACT_TICKS = 81;
    private static final int WINDOW_TICKS = 120;
    private static final int LAST_ASKED_TICK = 1000;
    private static final int LAST_BILL_TICK = 500;
    private static final int MOST_SHIFT = 400;
    private static final int LEAST_PERIOD = 4;
    private static final int MOST_PERIOD = 40;
    private static final int MOST_PHASE = 39;
    private static final int MOST_REACH = 60;
    private static final int MOST_PLACE = 400;
    private static final int NEAR_BOARD = 5;
    private static final int NEAR_IN_AIR = 2;
    private static final int IN_AIR = 10;

    private final Tape tape = new Tape();
    private Rig current = new Rig();
    private Rig spare = new Rig();
    private final Reader reader = new Reader(tape, spare);
    private final Flight probe = new Flight();
    private final Search search = new Search(current);
    private final Act plan = new Act();
    private final Bill bill = new Bill();
    private final Image picture = new Image();

    public FlyingBars() {
    }

    public int feed(int a, int b, int c, int d, int e) {
        if (tape.length + 20 > Tape.ROOM) {
            return NONE;
        }
        tape.putNumber(a);
        tape.putNumber(b);
        tape.putNumber(c);
        tape.putNumber(d);
        tape.putNumber(e);
        return tape.length;
    }

    public boolean end(int n) {
        if (!within(n, 0, tape.length)) {
            return false;
        }
        tape.length = n;
        return true;
    }

    public int rig() {
        boolean read = reader.readRig(spare);
        tape.length = 0;
        if (!read) {
            return NONE;
        }
        Rig old = current;
        current = spare;
        spare = old;
        plan.there = false;
        bill.count = 0;
        search.forget();
        return current.statements;
    }

    public int fault(int what) {
        if (what == 0) {
            return reader.fault;
        }
        return what == 1 ? reader.faultAt : NONE;
    }

    public int has(int what) {
        switch (what) {
            case 0:
                return current.bars.count;
            case 1:
                return current.boards.count;
            case 2:
                return current.tricks.count;
            case 3:
                return current.bars.catchers();
            case 4:
                return bill.count;
            case 5:
                return plan.there ? plan.count : 0;
            default:
                return NONE;
        }
    }

    public int letter(int kind, int which, int k) {
        if (!within(k, 0, 5)) {
            return NONE;
        }
        int name = current.nameOf(kind, which);
        return name == NONE ? NONE : (name >> (5 * k)) & 31;
    }

    // ---- bars and flights

    public boolean change(int bar, int period, int phase, int reach) {
        if (!current.bars.isThere(bar) || !within(period, LEAST_PERIOD, MOST_PERIOD)
                || !within(phase, 0, MOST_PHASE) || !within(reach, 0, MOST_REACH)) {
            return false;
        }
        current.bars.setSwing(bar, period, phase, reach);
        search.forget();
        return true;
    }

    public int where(int bar, int tick) {
        if (!current.bars.isThere(bar) || !within(tick, 0, LAST_ASKED_TICK)) {
            return NOWHERE;
        }
        return current.bars.placeAt(bar, tick);
    }

    public int speed(int bar, int tick) {
        if (!current.bars.isThere(bar) || !within(tick, 0, LAST_ASKED_TICK)) {
            return NOWHERE;
        }
        return current.bars.speedAt(bar, tick);
    }

    public int round() {
        return current.bars.commonRound();
    }

    public int flight(int from, int tick, int trick, int to, int done, boolean again, int what) {
        if (!within(tick, 0, LAST_ASKED_TICK) || !within(done, 0, MOST_FLIGHTS)
                || !probe.aim(current, from, tick, trick, to)) {
            return NONE;
        }
        int repeated = again ? 1 : 0;
        switch (what) {
            case 0:
                return probe.miss;
            case 1:
                return probe.isGood(done, repeated) ? 1 : 0;
            case 2:
                return probe.worthBy(done, repeated);
            default:
                return NONE;
        }
    }

    public int window(int from, int trick, int to, int k) {
        if (k < NONE || !canFly(from, trick, to)) {
            return NONE;
        }
        int found = 0;
        for (int tick = 0; tick < WINDOW_TICKS; tick++) {
            if (isGoodAlone(from, tick, trick, to)) {
                if (found == k) {
                    return tick;
                }
                found++;
            }
        }
        return k == NONE ? found : NONE;
    }

    // ---- the best act

    public int best(int from, int to, int n, int by) {
        return canSeek(from, to, n, by) ? planBest(from, to, n, by) : NONE;
    }

    public int soonest(int from, int to, int m, int n) {
        if (!canSeek(from, to, n, LAST_TICK) || !within(m, 0, MOST_FLIGHTS)) {
            return NONE;
        }
        search.setUp(current, n, LAST_TICK);
        search.spreadFrom(from);
        return search.firstEnd(to, m);
    }

    public int ways(int from, int to, int n, int by) {
        if (!canSeek(from, to, n, by)) {
            return NONE;
        }
        search.setUp(current, n, by);
        search.sweepBack(to, true);
        return search.countFrom(from);
    }

    public int nearest(int from, int trick, int to, boolean least) {
        if (!canFly(from, trick, to)) {
            return NONE;
        }
        int bestTick = NONE;
        int bestMiss = CEILING;
        for (int tick = 0; tick < WINDOW_TICKS; tick++) {
            if (probe.aim(current, from, tick, trick, to) && probe.miss < bestMiss) {
                bestMiss = probe.miss;
                bestTick = tick;
            }
        }
        if (bestTick == NONE) {
            return NONE;
        }
        return least ? bestMiss : bestTick;
    }

    public int idle(int trick) {
        if (!current.tricks.isThere(trick)) {
            return NONE;
        }
        for (int from = 0; from < current.bars.count; from++) {
            for (int to = 0; to < current.bars.count; to++) {
                for (int tick = 0; tick < WINDOW_TICKS; tick++) {
                    if (isGoodAlone(from, tick, trick, to)) {
                        return 0;
                    }
                }
            }
        }
        return 1;
    }

    public int barred(int from, int to, int n, int by, boolean trick, int which) {
        boolean known = trick ? current.tricks.isThere(which) : current.bars.isThere(which);
        if (!known || !canSeek(from, to, n, by)) {
            return NONE;
        }
        search.setUp(current, n, by);
        search.forbid(trick ? NONE : which, trick ? which : NONE);
        search.sweepBack(to, false);
        return search.findStart(from) ? search.worthFound() : NONE;
    }

    public int reached(int from, int n, int by) {
        if (!canSeek(from, from, n, by)) {
            return NONE;
        }
        search.setUp(current, n, by);
        search.spreadFrom(from);
        return search.barsCameTo();
    }

    // ---- the plan

    public boolean take(int board, int tick, int bar) {
        if (!within(tick, 0, LAST_TICK) || !current.isBy(bar, board, tick)) {
            return false;
        }
        plan.begin(board, tick, bar);
        return true;
    }

    public boolean fly(int tick, int trick, int to) {
        if (!isPlanOpen() || plan.count >= MOST_FLIGHTS
                || !within(tick, plan.cameTo(current.tricks, plan.count), LAST_TICK)
                || !probe.aim(current, plan.barBefore(plan.count), tick, trick, to)
                || tick + current.tricks.ticksOf(trick) > LAST_TICK) {
            return false;
        }
        int again = plan.lastTrick() == trick ? 1 : 0;
        if (!probe.isGood(plan.count, again)) {
            return false;
        }
        plan.addFlight(tick, trick, to, probe.worthBy(plan.count, again));
        return true;
    }

    public boolean down(int tick, int board) {
        if (!isPlanOpen() || !within(tick, plan.cameTo(current.tricks, plan.count), LAST_TICK)
                || !current.isBy(plan.barBefore(plan.count), board, tick)) {
            return false;
        }
        plan.finish(tick, board);
        return true;
    }

    public int plan(int what) {
        if (!plan.there) {
            return NONE;
        }
        switch (what) {
            case 0:
                return plan.tick;
            case 1:
                return plan.bar;
            case 2:
                return plan.board;
            case 3:
                return plan.endTick;
            case 4:
                return plan.endBoard;
            case 5:
                return plan.worthTold();
            default:
                return NONE;
        }
    }

    public int step(int i, int what) {
        if (!plan.there || !within(i, 0, plan.count - 1)) {
            return NONE;
        }
        switch (what) {
            case 0:
                return plan.flyTick[i];
            case 1:
                return plan.flyTrick[i];
            case 2:
                return plan.flyBar[i];
            case 3:
                return plan.flyWorth[i];
            default:
                return NONE;
        }
    }

    // ---- the bill

    public int book(int shift) {
        if (!isPlanDown() || !within(shift, 0, MOST_SHIFT) || bill.count >= MOST_ACTS
                || plan.firstWrong(current, probe, shift) != NONE) {
            return NONE;
        }
        return bill.add(plan, shift);
    }

    public int unbook() {
        if (bill.count < 1) {
            return NONE;
        }
        bill.count--;
        return bill.count;
    }

    public int shift() {
        return isPlanDown() ? bill.leastShift(current, probe, plan, 0) : NONE;
    }

    public int quarrel(int first, int second) {
        return first == second ? NONE : bill.firstQuarrel(current, first, second);
    }

    public int at(int act, int tick) {
        Act looked = bill.actAt(act);
        if (looked == null || !within(tick, 0, LAST_BILL_TICK)) {
            return NONE;
        }
        return looked.stateAt(current.tricks, tick - looked.shift);
    }

    public int fails(int act) {
        Act looked = bill.actAt(act);
        return looked == null ? NONE : looked.firstWrong(current, probe, looked.shift);
    }

    public int slack(int act, int bar, boolean grows) {
        Act looked = bill.actAt(act);
        if (looked == null || !current.bars.isThere(bar)
                || looked.firstWrong(current, probe, looked.shift) != NONE) {
            return NONE;
        }
        int phase = current.bars.phase[bar];
        int found = NONE;
        for (int by = 1; by <= MOST_PHASE && found == NONE; by++) {
            // A phase outside 0 .. 39 swings as the one whole periods away does.
            current.bars.phase[bar] = grows ? phase + by : phase - by;
            if (looked.firstWrong(current, probe, looked.shift) != NONE) {
                found = by;
            }
        }
        current.bars.phase[bar] = phase;
        return found;
    }

    public int fill(int from, int to, int n, int by) {
        if (!canSeek(from, to, n, by)) {
            return NONE;
        }
        int before = bill.count;
        if (before >= MOST_ACTS || planBest(from, to, n, by) == NONE) {
            return 0;
        }
        int least = 0;
        for (int i = before; i < MOST_ACTS && least != NONE; i++) {
            // Lesser shifts were refused already, and a fuller bill refuses them all the more.
            least = bill.leastShift(current, probe, plan, least);
            if (least != NONE) {
                bill.add(plan, least);
            }
        }
        return bill.count - before;
    }

    public int bill(int what) {
        switch (what) {
            case 0:
                return bill.worthTold();
            case 1:
                return bill.lastEnd();
            case 2:
                return bill.mostAtOnce();
            default:
                return NONE;
        }
    }

    // ---- images

    public int image() {
        return picture.write(bill);
    }

    public int octet(int k) {
        return picture.byteAt(k);
    }

    public boolean on() {
        boolean read = picture.read(tape, current, bill);
        tape.length = 0;
        return read;
    }

    private static boolean within(int x, int low, int high) {
        return low <= x && x <= high;
    }

    private boolean canFly(int from, int trick, int to) {
        return probe.aim(current, from, 0, trick, to);
    }

    private boolean isGoodAlone(int from, int tick, int trick, int to) {
        return probe.aim(current, from, tick, trick, to) && probe.isGood(0, 0);
    }

    private boolean canSeek(int from, int to, int n, int by) {
        return current.boards.isThere(from) && current.boards.isThere(to)
                && within(n, 0, MOST_FLIGHTS) && within(by, 0, LAST_TICK);
    }

    private boolean isPlanOpen() {
        return plan.there && plan.endTick == NONE;
    }

    private boolean isPlanDown() {
        return plan.there && plan.endTick != NONE;
    }

    private int planBest(int from, int to, int n, int by) {
        search.setUp(current, n, by);
        search.sweepBack(to, false);
        if (!search.findStart(from)) {
            return NONE;
        }
        search.writeBest(plan, from, to);
        return search.worthFound();
    }

    /** The bytes that feed() brought, and how far they have been read as an image. */
    private static final class Tape {
        static final int ROOM = 900;

        private final int[] bytes = new int[ROOM];
        private int length;
        private int cursor;

        void putNumber(int number) {
            for (int bits = 24; bits >= 0 && length < bytes.length; bits -= 8) {
                bytes[length] = (number >> bits) & 255;
                length++;
            }
        }

        int byteAt(int k) {
            return k >= 0 && k < length && k < bytes.length ? bytes[k] : NONE;
        }

        int nextByte() {
            int next = byteAt(cursor);
            cursor++;
            return next;
        }
    }

    /** How bars swing, and on which of them catchers hang. */
    private static final class Bars {
        private final int[] name = new int[MOST_BARS];
        private final int[] place = new int[MOST_BARS];
        private final int[] period = new int[MOST_BARS];
        private final int[] phase = new int[MOST_BARS];
        private final int[] reach = new int[MOST_BARS];
        private final boolean[] catcher = new boolean[MOST_BARS];
        private int count;

        boolean isThere(int bar) {
            return bar >= 0 && bar < count && bar < MOST_BARS;
        }

        void add(int newName, int newPlace) {
            if (count < MOST_BARS) {
                name[count] = newName;
                place[count] = newPlace;
                catcher[count] = false;
                count++;
            }
        }

        void setSwing(int bar, int newPeriod, int newPhase, int newReach) {
            if (isThere(bar)) {
                period[bar] = newPeriod;
                phase[bar] = newPhase;
                reach[bar] = newReach;
            }
        }

        int find(int wanted) {
            for (int i = 0; i < count && i < MOST_BARS; i++) {
                if (name[i] == wanted) {
                    return i;
                }
            }
            return NONE;
        }

        int catchers() {
            int found = 0;
            for (int i = 0; i < count && i < MOST_BARS; i++) {
                found += catcher[i] ? 1 : 0;
            }
            return found;
        }

        int placeAt(int bar, int tick) {
            if (!isThere(bar) || period[bar] < 1) {
                return 0;
            }
            int s = Math.floorMod(tick + phase[bar], period[bar]);
            int d = Math.min(s, period[bar] - s);
            return place[bar] + reach[bar] - Math.floorDiv(4 * reach[bar] * d, period[bar]);
        }

        int speedAt(int bar, int tick) {
            return placeAt(bar, tick + 1) - placeAt(bar, tick);
        }

        int commonRound() {
            long all = 1;
            for (int i = 0; i < count && i < MOST_BARS; i++) {
                // A bar without reach stands still, so its period binds nobody.
                int own = reach[i] == 0 ? 1 : period[i];
                long shared = commonDivisor(all, own);
                if (shared > 0) {
                    all = all / shared * own;
                }
                if (all > CEILING) {
                    return CEILING;
                }
            }
            return (int) all;
        }

        private static long commonDivisor(long a, long b) {
            long x = a;
            long y = b;
            for (int i = 0; i < 100 && y > 0; i++) {
                long rest = x % y;
                x = y;
                y = rest;
            }
            return x;
        }
    }

    /** The boards, by their names and places. */
    private static final class Boards {
        private final int[] name = new int[MOST_BOARDS];
        private final int[] place = new int[MOST_BOARDS];
        private int count;

        boolean isThere(int board) {
            return board >= 0 && board < count && board < MOST_BOARDS;
        }

        void add(int newName, int newPlace) {
            if (count < MOST_BOARDS) {
                name[count] = newName;
                place[count] = newPlace;
                count++;
            }
        }

        boolean knows(int wanted) {
            for (int i = 0; i < count && i < MOST_BOARDS; i++) {
                if (name[i] == wanted) {
                    return true;
                }
            }
            return false;
        }
    }

    /**
     * The tricks. The sum and the test of each stand in one row of codes, operands ahead of what
     * joins them, so that they are worked out on a stack without recursion.
     */
    private static final class Tricks {
        static final int MISS = -1;
        static final int SWING = -2;
        static final int GAP = -3;
        static final int TICK = -4;
        static final int THROWN = -5;
        static final int CAUGHT = -6;
        static final int DONE = -7;
        static final int AGAIN = -8;
        static final int PLUS = -9;
        static final int MINUS = -10;
        static final int TIMES = -11;
        static final int PER = -12;
        static final int LEAST = -13;
        static final int GREATEST = -14;
        static final int BELOW = -15;
        static final int ABOVE = -16;
        static final int LIKE = -17;
        static final int NOT = -18;
        static final int BOTH = -19;
        static final int EITHER = -20;

        private final int[] name = new int[MOST_TRICKS];
        private final int[] ticks = new int[MOST_TRICKS];
        private final int[] arms = new int[MOST_TRICKS];
        private final int[] sumBegin = new int[MOST_TRICKS];
        private final int[] testBegin = new int[MOST_TRICKS];
        private final int[] testEnd = new int[MOST_TRICKS];
        private final boolean[] asksDone = new boolean[MOST_TRICKS];
        private final boolean[] asksAgain = new boolean[MOST_TRICKS];
        private final int[] code = new int[Tape.ROOM];
        private int length;
        private int count;

        boolean isThere(int trick) {
            return trick >= 0 && trick < count && trick < MOST_TRICKS;
        }

        int ticksOf(int trick) {
            return isThere(trick) ? ticks[trick] : 0;
        }

        boolean knows(int wanted) {
            for (int i = 0; i < count && i < MOST_TRICKS; i++) {
                if (name[i] == wanted) {
                    return true;
                }
            }
            return false;
        }

        /** The trick being told stands behind the others and is counted once it is whole. */
        void open(int newName, int newTicks, int newArms) {
            if (count < MOST_TRICKS) {
                name[count] = newName;
                ticks[count] = newTicks;
                arms[count] = newArms;
                sumBegin[count] = length;
                asksDone[count] = false;
                asksAgain[count] = false;
            }
        }

        void closeSum() {
            if (count < MOST_TRICKS) {
                testBegin[count] = length;
            }
        }

        void closeTest() {
            if (count < MOST_TRICKS) {
                testEnd[count] = length;
                count++;
            }
        }

        void emit(int what) {
            if (length < code.length) {
                code[length] = what;
                length++;
            }
            if (count < MOST_TRICKS) {
                asksDone[count] |= what == DONE;
                asksAgain[count] |= what == AGAIN;
            }
        }

        boolean anyAsksAgain() {
            for (int i = 0; i < count && i < MOST_TRICKS; i++) {
                if (asksAgain[i]) {
                    return true;
                }
            }
            return false;
        }
    }

    /** All that a text of statements tells. */
    private static final class Rig {
        private final Bars bars = new Bars();
        private final Boards boards = new Boards();
        private final Tricks tricks = new Tricks();
        private int statements;

        void clear() {
            bars.count = 0;
            boards.count = 0;
            tricks.count = 0;
            tricks.length = 0;
            statements = 0;
        }

        boolean isGiven(int name) {
            return bars.find(name) != NONE || boards.knows(name) || tricks.knows(name);
        }

        int nameOf(int kind, int which) {
            if (kind == 0 && bars.isThere(which)) {
                return bars.name[which];
            }
            if (kind == 1 && boards.isThere(which)) {
                return boards.name[which];
            }
            return kind == 2 && tricks.isThere(which) ? tricks.name[which] : NONE;
        }

        boolean isBy(int bar, int board, int tick) {
            return bars.isThere(bar) && boards.isThere(board)
                    && Math.abs(bars.placeAt(bar, tick) - boards.place[board]) <= NEAR_BOARD;
        }
    }

    /** Reads a rig's text; the first thing that is wrong is kept as the fault. */
    private static final class Reader {
        private static final int END = 0;
        private static final int WORD = 1;
        private static final int NUMBER = 2;
        private static final int SIGN = 3;
        /** A word or number right behind another one: nothing may go on with it. */
        private static final int STUCK = 4;

        private static final String OWN_WORDS = " bar at every from reach board catcher trick ticks arms worth when or and not all miss swing gap tick thrown caught done again min max ";

        private final Tape text;
        private Rig rig;
        private int kind;
        private int start;
        private int stop;
        private int fault;
        private int faultAt = NONE;

        Reader(Tape text, Rig rig) {
            this.text = text;
            this.rig = rig;
        }

        boolean readRig(Rig newRig) {
            rig = newRig;
            rig.clear();
            fault = 0;
            faultAt = NONE;
            kind = SIGN;
            stop = 0;
            advance();
            for (int i = 0; i <= MOST_STATEMENTS && kind != END && fault == 0; i++) {
                readStatement();
            }
            return fault == 0;
        }

        private void refuse(int what, int place) {
            if (fault == 0) {
                fault = what;
                faultAt = place;
            }
        }

        private void advance() {
            int[] bytes = text.bytes;
            int length = Math.min(text.length, bytes.length);
            boolean tight = kind == WORD || kind == NUMBER;
            int before = stop;
            start = stop;
            while (start < length && (bytes[start] == ' ' || bytes[start] == '\n')) {
                start++;
            }
            stop = start;
            while (stop < length && bytes[stop] >= 'a' && bytes[stop] <= 'z') {
                stop++;
            }
            kind = stop > start ? WORD : NUMBER;
            while (kind == NUMBER && stop < length && bytes[stop] >= '0' && bytes[stop] <= '9') {
                stop++;
            }
            if (stop > start) {
                kind = tight && start == before ? STUCK : kind;
            } else {
                kind = start < length ? SIGN : END;
                stop = Math.min(start + 1, length);
            }
        }

        private boolean isWord(String word) {
            if (kind != WORD || word.length() != stop - start) {
                return false;
            }
            for (int i = start; i < stop && i < text.bytes.length; i++) {
                if (word.charAt(i - start) != text.bytes[i]) {
                    return false;
                }
            }
            return true;
        }

        private boolean isSign(char sign) {
            return kind == SIGN && start < text.bytes.length && text.bytes[start] == sign;
        }

        /** Goes along the own words, counting how many letters of the one it is in are alike. */
        private boolean isOwnWord() {
            int alike = 0;
            for (int i = 1; i < OWN_WORDS.length(); i++) {
                int place = start + alike;
                if (OWN_WORDS.charAt(i) == ' ') {
                    if (alike == stop - start) {
                        return true;
                    }
                    alike = 0;
                } else if (alike != NONE) {
                    boolean same = place < stop && place < text.bytes.length
                            && text.bytes[place] == OWN_WORDS.charAt(i);
                    alike = same ? alike + 1 : NONE;
                }
            }
            return false;
        }

        private void passWord(String word) {
            if (fault == 0) {
                if (isWord(word)) {
                    advance();
                } else {
                    refuse(1, start);
                }
            }
        }

        private void passSign(char sign) {
            if (fault == 0) {
                if (isSign(sign)) {
                    advance();
                } else {
                    refuse(1, start);
                }
            }
        }

        private int readNumber(int low, int high) {
            if (fault != 0) {
                return NONE;
            }
            if (kind != NUMBER) {
                refuse(1, start);
                return NONE;
            }
            if (stop - start > 4) {
                refuse(1, start + 4);
                return NONE;
            }
            int number = 0;
            for (int i = start; i < stop; i++) {
                number = 10 * number + text.byteAt(i) - '0';
            }
            if (number < low || number > high) {
                refuse(2, start);
                return NONE;
            }
            advance();
            return number;
        }

        private int readNumberBehind(String word, int low, int high) {
            passWord(word);
            return readNumber(low, high);
        }

        /** Five bits a letter, the first lowest: six letters go into one number. */
        private int nameAtHand() {
            if (kind != WORD || isOwnWord()) {
                refuse(1, start);
                return NONE;
            }
            if (stop - start > 6) {
                refuse(1, start + 6);
                return NONE;
            }
            int name = 0;
            for (int i = start; i < stop; i++) {
                name |= (text.byteAt(i) - 'a' + 1) << (5 * (i - start));
            }
            return name;
        }

        private int readNewName() {
            int name = nameAtHand();
            if (fault == 0 && rig.isGiven(name)) {
                refuse(3, start);
            }
            if (fault == 0) {
                advance();
            }
            return name;
        }

        private void readStatement() {
            if (rig.statements >= MOST_STATEMENTS) {
                refuse(5, start);
            } else if (isWord("bar")) {
                readBar();
            } else if (isWord("board")) {
                readBoard();
            } else if (isWord("catcher")) {
                readCatcher();
            } else if (isWord("trick")) {
                readTrick();
            } else {
                refuse(1, start);
            }
            passSign(';');
            rig.statements++;
        }

        private boolean hasRoom(int count, int most) {
            if (count >= most) {
                refuse(5, start);
                return false;
            }
            advance();
            return true;
        }

        private void readBar() {
            if (!hasRoom(rig.bars.count, MOST_BARS)) {
                return;
            }
            int name = readNewName();
            int place = readNumberBehind("at", 0, MOST_PLACE);
            int period = readNumberBehind("every", LEAST_PERIOD, MOST_PERIOD);
            int phase = readNumberBehind("from", 0, MOST_PHASE);
            int reach = readNumberBehind("reach", 0, MOST_REACH);
            if (fault == 0) {
                rig.bars.add(name, place);
                rig.bars.setSwing(rig.bars.count - 1, period, phase, reach);
            }
        }

        private void readBoard() {
            if (!hasRoom(rig.boards.count, MOST_BOARDS)) {
                return;
            }
            int name = readNewName();
            int place = readNumberBehind("at", 0, MOST_PLACE);
            if (fault == 0) {
                rig.boards.add(name, place);
            }
        }

        private void readCatcher() {
            advance();
            int bar = rig.bars.find(nameAtHand());
            if (fault == 0 && !rig.bars.isThere(bar)) {
                refuse(3, start);
            }
            if (fault == 0) {
                rig.bars.catcher[bar] = true;
                advance();
            }
        }

        private void readTrick() {
            if (!hasRoom(rig.tricks.count, MOST_TRICKS)) {
                return;
            }
            int name = readNewName();
            int ticks = readNumberBehind("ticks", 1, 20);
            int arms = readNumberBehind("arms", 0, 40);
            passWord("worth");
            rig.tricks.open(name, ticks, arms);
            readSum(0);
            rig.tricks.closeSum();
            passWord("when");
            readTest(0);
            if (fault == 0) {
                rig.tricks.closeTest();
            }
        }

        private boolean mayOpen(int open) {
            if (open >= MOST_OPEN) {
                refuse(4, start);
                return false;
            }
            advance();
            return true;
        }

        private void readTest(int open) {
            readBoth(open);
            for (int i = 0; i < Tape.ROOM && fault == 0 && isWord("or"); i++) {
                advance();
                readBoth(open);
                rig.tricks.emit(Tricks.EITHER);
            }
        }

        private void readBoth(int open) {
            readFact(open);
            for (int i = 0; i < Tape.ROOM && fault == 0 && isWord("and"); i++) {
                advance();
                readFact(open);
                rig.tricks.emit(Tricks.BOTH);
            }
        }

        private void readFact(int open) {
            if (fault != 0) {
                return;
            }
            if (isWord("not")) {
                if (mayOpen(open)) {
                    readFact(open + 1);
                    rig.tricks.emit(Tricks.NOT);
                }
            } else if (isSign('[')) {
                if (mayOpen(open)) {
                    readTest(open + 1);
                    passSign(']');
                }
            } else if (isWord("all")) {
                advance();
                rig.tricks.emit(1);
            } else {
                readSum(open);
                int sign = isSign('<') ? Tricks.BELOW : isSign('>') ? Tricks.ABOVE : Tricks.LIKE;
                passSign(sign == Tricks.BELOW ? '<' : sign == Tricks.ABOVE ? '>' : '=');
                readSum(open);
                rig.tricks.emit(sign);
            }
        }

        private void readSum(int open) {
            readProduct(open);
            for (int i = 0; i < Tape.ROOM && fault == 0 && (isSign('+') || isSign('-')); i++) {
                int sign = isSign('+') ? Tricks.PLUS : Tricks.MINUS;
                advance();
                readProduct(open);
                rig.tricks.emit(sign);
            }
        }

        private void readProduct(int open) {
            readPart(open);
            for (int i = 0; i < Tape.ROOM && fault == 0 && (isSign('*') || isSign('/')); i++) {
                int sign = isSign('*') ? Tricks.TIMES : Tricks.PER;
                advance();
                readPart(open);
                rig.tricks.emit(sign);
            }
        }

        private void readPart(int open) {
            if (fault != 0) {
                return;
            }
            int known = knownValue();
            if (known < 0) {
                advance();
                rig.tricks.emit(known);
            } else if (isSign('(')) {
                if (mayOpen(open)) {
                    readSum(open + 1);
                    passSign(')');
                }
            } else if (isWord("min") || isWord("max")) {
                readPair(open, isWord("min") ? Tricks.LEAST : Tricks.GREATEST);
            } else {
                rig.tricks.emit(readNumber(0, 9999));
            }
        }

        private void readPair(int open, int which) {
            advance();
            if (!isSign('(')) {
                refuse(1, start);
            } else if (mayOpen(open)) {
                readSum(open + 1);
                passSign(',');
                readSum(open + 1);
                passSign(')');
                rig.tricks.emit(which);
            }
        }

        /** The code of the value that the word at hand names; 0 when it names none. */
        private int knownValue() {
            if (isWord("miss")) {
                return Tricks.MISS;
            }
            if (isWord("swing")) {
                return Tricks.SWING;
            }
            if (isWord("gap")) {
                return Tricks.GAP;
            }
            if (isWord("tick")) {
                return Tricks.TICK;
            }
            if (isWord("thrown")) {
                return Tricks.THROWN;
            }
            if (isWord("caught")) {
                return Tricks.CAUGHT;
            }
            if (isWord("done")) {
                return Tricks.DONE;
            }
            return isWord("again") ? Tricks.AGAIN : 0;
        }
    }

    /** One flight at a time: aimed first, then asked. */
    private static final class Flight {
        private static final int BOUND = 1000000;

        private final int[] stack = new int[64];
        private int[] code = new int[1];
        private int sumBegin;
        private int testBegin;
        private int testEnd;
        private int arms;
        private int miss;
        private int swing;
        private int gap;
        private int tick;
        private int thrown;
        private int caught;

        boolean aim(Rig rig, int from, int newTick, int trick, int to) {
            Bars bars = rig.bars;
            Tricks tricks = rig.tricks;
            if (from == to || !bars.isThere(from) || !bars.isThere(to) || !tricks.isThere(trick)) {
                return false;
            }
            code = tricks.code;
            sumBegin = tricks.sumBegin[trick];
            testBegin = tricks.testBegin[trick];
            testEnd = tricks.testEnd[trick];
            arms = tricks.arms[trick];
            tick = newTick;
            int ticks = tricks.ticks[trick];
            int left = bars.placeAt(from, tick);
            int met = bars.placeAt(to, tick + ticks);
            int pace = bars.placeAt(from, tick + 1) - left;
            miss = Math.abs(left + ticks * pace - met);
            swing = Math.abs(pace);
            gap = Math.abs(left - met);
            thrown = bars.catcher[from] ? 1 : 0;
            caught = bars.catcher[to] ? 1 : 0;
            return true;
        }

        boolean isNear() {
            return miss <= arms;
        }

        boolean isGood(int done, int again) {
            return isNear() && workOut(testBegin, testEnd, done, again) != 0;
        }

        int worthBy(int done, int again) {
            return Math.max(0, Math.min(MOST_WORTH, workOut(sumBegin, testBegin, done, again)));
        }

        private int workOut(int begin, int end, int done, int again) {
            int top = 0;
            for (int i = Math.max(0, begin); i < end && i < code.length; i++) {
                int what = code[i];
                if (what > Tricks.PLUS) {
                    if (top >= stack.length) {
                        return 0;
                    }
                    stack[top] = what >= 0 ? what : valueOf(what, done, again);
                    top++;
                } else if (what == Tricks.NOT) {
                    if (top < 1) {
                        return 0;
                    }
                    stack[top - 1] = 1 - stack[top - 1];
                } else {
                    if (top < 2) {
                        return 0;
                    }
                    top--;
                    stack[top - 1] = join(what, stack[top - 1], stack[top]);
                }
            }
            return top > 0 ? stack[0] : 0;
        }

        private int valueOf(int what, int done, int again) {
            switch (what) {
                case Tricks.MISS:
                    return miss;
                case Tricks.SWING:
                    return swing;
                case Tricks.GAP:
                    return gap;
                case Tricks.TICK:
                    return tick;
                case Tricks.THROWN:
                    return thrown;
                case Tricks.CAUGHT:
                    return caught;
                case Tricks.DONE:
                    return done;
                default:
                    return again;
            }
        }

        private static int join(int what, int a, int b) {
            switch (what) {
                case Tricks.PLUS:
                    return Math.max(-BOUND, Math.min(BOUND, a + b));
                case Tricks.MINUS:
                    return Math.max(-BOUND, Math.min(BOUND, a - b));
                case Tricks.TIMES:
                    return (int) Math.max(-BOUND, Math.min(BOUND, (long) a * b));
                case Tricks.PER:
                    return b == 0 ? 0 : Math.floorDiv(a, b);
                case Tricks.LEAST:
                    return Math.min(a, b);
                case Tricks.GREATEST:
                    return Math.max(a, b);
                case Tricks.BELOW:
                    return a < b ? 1 : 0;
                case Tricks.ABOVE:
                    return a > b ? 1 : 0;
                case Tricks.LIKE:
                    return a == b ? 1 : 0;
                case Tricks.BOTH:
                    return a & b;
                default:
                    return a | b;
            }
        }
    }

    /**
     * Looks through all acts at once. A state is: so many flights done, on a bar at a tick (the two
     * are a spot), and a slot for the trick of the last flight, if any trick asks for "again".
     */
    private static final class Search {
        /** A flight's worth in the list when it hangs on what the flyer did ahead of it. */
        private static final int VARIES = MOST_WORTH + 1;
        private static final int WORTH_WEIGHT = 1000;
        private static final int TICK_WEIGHT = 10;
        private static final int NO_ACT = -1000000;
        private static final int SPOTS = MOST_BARS * ACT_TICKS;
        private static final int NO_FLIGHT_YET = 1 << MOST_TRICKS;

        private final Flight probe = new Flight();
        private final int[] first = new int[SPOTS + 1];
        private final int[] listed = new int[SPOTS * (MOST_BARS - 1) * MOST_TRICKS];
        private final boolean[] endsAt = new boolean[SPOTS];
        private final int[] value = new int[(MOST_FLIGHTS + 1) * SPOTS * MOST_TRICKS];
        private final int[] lasts = new int[(MOST_FLIGHTS + 1) * SPOTS];
        private Rig rig;
        private boolean isListed;
        private boolean mindsLast;
        private boolean counts;
        private int most;
        private int by;
        private int noBar;
        private int noTrick;
        private int startTick;
        private int startBar;
        private int startValue;

        Search(Rig rig) {
            this.rig = rig;
        }

        /** To be called whenever bars or tricks are others than before. */
        void forget() {
            isListed = false;
        }

        void setUp(Rig newRig, int newMost, int newBy) {
            rig = newRig;
            most = Math.max(0, Math.min(MOST_FLIGHTS, newMost));
            by = Math.max(0, Math.min(LAST_TICK, newBy));
            forbid(NONE, NONE);
            if (!isListed) {
                listFlights();
                mindsLast = rig.tricks.anyAsksAgain();
                isListed = true;
            }
        }

        void forbid(int bar, int trick) {
            noBar = bar;
            noTrick = trick;
        }

        private static int spotOf(int bar, int tick) {
            return bar * ACT_TICKS + tick;
        }

        private static int stateOf(int done, int spot, int slot) {
            return (done * SPOTS + spot) * MOST_TRICKS + slot;
        }

        private int slotOf(int trick) {
            return mindsLast ? trick : 0;
        }

        private int slotsBy(int done) {
            return mindsLast && done > 0 ? rig.tricks.count : 1;
        }

        /** Flights that can be good, by spot, in the order in which a row is the first. */
        private void listFlights() {
            int length = 0;
            int bars = Math.min(MOST_BARS, rig.bars.count);
            for (int bar = 0; bar < bars; bar++) {
                for (int tick = 0; tick <= LAST_TICK; tick++) {
                    first[spotOf(bar, tick)] = length;
                    length = listFrom(bar, tick, length);
                }
            }
            first[spotOf(bars, 0)] = length;
        }

        private int listFrom(int bar, int tick, int length) {
            int next = length;
            for (int trick = 0; trick < rig.tricks.count && trick < MOST_TRICKS; trick++) {
                boolean inTime = tick + rig.tricks.ticks[trick] <= LAST_TICK;
                boolean varies = rig.tricks.asksDone[trick] || rig.tricks.asksAgain[trick];
                for (int to = 0; inTime && to < rig.bars.count && next < listed.length; to++) {
                    if (probe.aim(rig, bar, tick, trick, to) && probe.isNear()
                            && (varies || probe.isGood(0, 0))) {
                        int worth = varies ? VARIES : probe.worthBy(0, 0);
                        listed[next] = (worth << 6) | (trick << 3) | to;
                        next++;
                    }
                }
            }
            return next;
        }

        private static int trickOf(int entry) {
            return (entry >> 3) & 7;
        }

        private static int barOf(int entry) {
            return entry & 7;
        }

        /** The worth of a listed flight, or NONE when it is not good. */
        private int worthOf(int entry, int spot, int done, int again) {
            int worth = entry >> 6;
            if (worth != VARIES) {
                return worth;
            }
            boolean good = probe.aim(rig, spot / ACT_TICKS, spot % ACT_TICKS, trickOf(entry), barOf(entry))
                    && probe.isGood(done, again);
            return good ? probe.worthBy(done, again) : NONE;
        }

        /** The spot where a listed flight comes down, or NONE when it is forbidden or too late. */
        private int landing(int entry, int spot) {
            int trick = trickOf(entry);
            int down = spot % ACT_TICKS + rig.tricks.ticksOf(trick);
            if (trick == noTrick || barOf(entry) == noBar || down > by) {
                return NONE;
            }
            return spotOf(barOf(entry), down);
        }

        /**
         * Values all states from the last ones on, either by counting the ways on from there or by
         * the best way on. The best is one number: worth weighs more than the tick of the end, and
         * that more than how many flights there are, so adding up along an act keeps the order.
         */
        void sweepBack(int board, boolean counting) {
            counts = counting;
            for (int spot = 0; spot < SPOTS && spot < spotOf(rig.bars.count, 0); spot++) {
                endsAt[spot] = rig.isBy(spot / ACT_TICKS, board, spot % ACT_TICKS);
            }
            for (int done = most; done >= 0; done--) {
                for (int tick = by; tick >= 0; tick--) {
                    for (int bar = 0; bar < rig.bars.count && bar < MOST_BARS; bar++) {
                        valueSpot(done, spotOf(bar, tick), tick);
                    }
                }
            }
        }

        private int nothing() {
            return counts ? 0 : NO_ACT;
        }

        private int merge(int a, int b) {
            return counts ? Math.min(CEILING, a + b) : Math.max(a, b);
        }

        private int withFlight(int rest, int worth) {
            return counts ? rest : rest + worth * WORTH_WEIGHT - 1;
        }

        private void valueSpot(int done, int spot, int tick) {
            int slots = slotsBy(done);
            for (int slot = 0; slot < slots; slot++) {
                value[stateOf(done, spot, slot)] = tick < by ? value[stateOf(done, spot + 1, slot)] : nothing();
            }
            int shared = nothing();
            if (endsAt[spot]) {
                shared = counts ? 1 : -TICK_WEIGHT * tick;
            }
            for (int i = first[spot]; done < most && i < first[spot + 1] && i < listed.length; i++) {
                int entry = listed[i];
                int trick = trickOf(entry);
                int down = landing(entry, spot);
                int rest = down == NONE ? nothing() : value[stateOf(done + 1, down, slotOf(trick))];
                if (rest == nothing()) {
                    continue;
                }
                int fresh = worthOf(entry, spot, done, 0);
                int again = done > 0 && rig.tricks.asksAgain[trick] ? worthOf(entry, spot, done, 1) : fresh;
                if (again == fresh) {
                    shared = fresh == NONE ? shared : merge(shared, withFlight(rest, fresh));
                    continue;
                }
                for (int slot = 0; slot < slots; slot++) {
                    int worth = slot == trick ? again : fresh;
                    int state = stateOf(done, spot, slot);
                    value[state] = worth == NONE ? value[state] : merge(value[state], withFlight(rest, worth));
                }
            }
            for (int slot = 0; slot < slots; slot++) {
                value[stateOf(done, spot, slot)] = merge(value[stateOf(done, spot, slot)], shared);
            }
        }

        int countFrom(int board) {
            int all = 0;
            for (int bar = 0; bar < rig.bars.count && bar < MOST_BARS; bar++) {
                for (int tick = 0; tick <= by; tick++) {
                    if (rig.isBy(bar, board, tick)) {
                        all = merge(all, value[stateOf(0, spotOf(bar, tick), 0)]);
                    }
                }
            }
            return all;
        }

        /** Finds where the best act begins; false when there is none. */
        boolean findStart(int board) {
            startValue = NO_ACT;
            for (int tick = 0; tick <= by; tick++) {
                for (int bar = 0; bar < rig.bars.count && bar < MOST_BARS; bar++) {
                    int own = value[stateOf(0, spotOf(bar, tick), 0)];
                    if (bar != noBar && own > startValue && rig.isBy(bar, board, tick)) {
                        startValue = own;
                        startTick = tick;
                        startBar = bar;
                    }
                }
            }
            return startValue != NO_ACT;
        }

        int worthFound() {
            return Math.floorDiv(startValue + WORTH_WEIGHT - 1, WORTH_WEIGHT);
        }

        /** Goes the best way on from where findStart() found it to begin. */
        void writeBest(Act plan, int from, int to) {
            plan.begin(from, startTick, startBar);
            int spot = spotOf(startBar, startTick);
            int left = startValue;
            int flights = Math.floorMod(-startValue, TICK_WEIGHT);
            for (int i = 0; i < flights && i < most && spot != NONE; i++) {
                spot = writeNext(plan, spot, left);
                left = spot == NONE ? left : value[stateOf(i + 1, spot, slotOf(plan.lastTrick()))];
            }
            plan.finish(Math.floorDiv(-left, TICK_WEIGHT), to);
        }

        /** Adds the first flight by which all that is left can be had; the spot where it comes down. */
        private int writeNext(Act plan, int came, int left) {
            int done = plan.count;
            int lastTrick = plan.lastTrick();
            for (int spot = came; spot <= came + by - came % ACT_TICKS && spot < SPOTS; spot++) {
                for (int i = first[spot]; done < most && i < first[spot + 1] && i < listed.length; i++) {
                    int trick = trickOf(listed[i]);
                    int down = landing(listed[i], spot);
                    int rest = down == NONE ? NO_ACT : value[stateOf(done + 1, down, slotOf(trick))];
                    if (rest == NO_ACT) {
                        continue;
                    }
                    int worth = worthOf(listed[i], spot, done, lastTrick == trick ? 1 : 0);
                    if (worth != NONE && withFlight(rest, worth) == left) {
                        plan.addFlight(spot % ACT_TICKS, trick, barOf(listed[i]), worth);
                        return down;
                    }
                }
            }
            return NONE;
        }

        /** Marks, for each count of flights and spot, by which last tricks a flyer can be there. */
        void spreadFrom(int board) {
            Arrays.fill(lasts, 0);
            for (int done = 0; done <= most; done++) {
                for (int tick = 0; tick <= by; tick++) {
                    for (int bar = 0; bar < rig.bars.count && bar < MOST_BARS; bar++) {
                        int spot = spotOf(bar, tick);
                        int here = lasts[done * SPOTS + spot];
                        if (tick > 0) {
                            here |= lasts[done * SPOTS + spot - 1];
                        }
                        if (done == 0 && rig.isBy(bar, board, tick)) {
                            here |= NO_FLIGHT_YET;
                        }
                        lasts[done * SPOTS + spot] = here;
                        if (here != 0 && done < most) {
                            spreadFlights(done, spot, here);
                        }
                    }
                }
            }
        }

        private void spreadFlights(int done, int spot, int here) {
            for (int i = first[spot]; i < first[spot + 1] && i < listed.length; i++) {
                int own = 1 << trickOf(listed[i]);
                int down = landing(listed[i], spot);
                if (down == NONE) {
                    continue;
                }
                boolean fresh = (here & ~own) != 0 && worthOf(listed[i], spot, done, 0) != NONE;
                if (fresh || (here & own) != 0 && worthOf(listed[i], spot, done, 1) != NONE) {
                    lasts[(done + 1) * SPOTS + down] |= own;
                }
            }
        }

        int firstEnd(int board, int least) {
            for (int tick = 0; tick <= by; tick++) {
                for (int bar = 0; bar < rig.bars.count && bar < MOST_BARS; bar++) {
                    if (rig.isBy(bar, board, tick) && isThereWith(bar, tick, least)) {
                        return tick;
                    }
                }
            }
            return NONE;
        }

        private boolean isThereWith(int bar, int tick, int least) {
            for (int done = Math.max(0, least); done <= most; done++) {
                if (lasts[done * SPOTS + spotOf(bar, tick)] != 0) {
                    return true;
                }
            }
            return false;
        }

        int barsCameTo() {
            int bits = 0;
            for (int bar = 0; bar < rig.bars.count && bar < MOST_BARS; bar++) {
                if (isThereWith(bar, by, 0)) {
                    bits |= 1 << bar;
                }
            }
            return bits;
        }
    }

    /** An act: a bar taken from a board, flights, and a board to go down on. */
    private static final class Act {
        /** Marks places in the air in a row of ticks; bars are far below. */
        private static final int AIR = 10000;

        private final int[] flyTick = new int[MOST_FLIGHTS];
        private final int[] flyTrick = new int[MOST_FLIGHTS];
        private final int[] flyBar = new int[MOST_FLIGHTS];
        private final int[] flyWorth = new int[MOST_FLIGHTS];
        private boolean there;
        private int shift;
        private int board;
        private int tick;
        private int bar;
        private int count;
        private int endTick;
        private int endBoard;

        void begin(int newBoard, int newTick, int newBar) {
            there = true;
            shift = 0;
            board = newBoard;
            tick = newTick;
            bar = newBar;
            count = 0;
            endTick = NONE;
            endBoard = NONE;
        }

        void addFlight(int newTick, int trick, int to, int worth) {
            if (count < MOST_FLIGHTS) {
                flyTick[count] = newTick;
                flyTrick[count] = trick;
                flyBar[count] = to;
                flyWorth[count] = worth;
                count++;
            }
        }

        void finish(int newTick, int newBoard) {
            endTick = newTick;
            endBoard = newBoard;
        }

        void copyFrom(Act other, int newShift) {
            begin(other.board, other.tick, other.bar);
            for (int i = 0; i < other.count && i < MOST_FLIGHTS; i++) {
                addFlight(other.flyTick[i], other.flyTrick[i], other.flyBar[i], other.flyWorth[i]);
            }
            finish(other.endTick, other.endBoard);
            shift = newShift;
        }

        /** The bar from which flight i goes, or the last one when i is behind all flights. */
        int barBefore(int i) {
            return i >= 1 && i <= MOST_FLIGHTS ? flyBar[i - 1] : bar;
        }

        /** The tick at which the flyer came to that bar. */
        int cameTo(Tricks tricks, int i) {
            return i >= 1 && i <= MOST_FLIGHTS ? flyTick[i - 1] + tricks.ticksOf(flyTrick[i - 1]) : tick;
        }

        int lastTrick() {
            return count >= 1 && count <= MOST_FLIGHTS ? flyTrick[count - 1] : NONE;
        }

        int worthTold() {
            int all = 0;
            for (int i = 0; i < count && i < MOST_FLIGHTS; i++) {
                all += flyWorth[i];
            }
            return all;
        }

        /** The first step that can't be, so much later; NONE when all can. */
        int firstWrong(Rig rig, Flight probe, int later) {
            if (!rig.isBy(bar, board, tick + later)) {
                return 0;
            }
            for (int i = 0; i < count && i < MOST_FLIGHTS; i++) {
                int again = i > 0 && flyTrick[i] == flyTrick[i - 1] ? 1 : 0;
                if (!probe.aim(rig, barBefore(i), flyTick[i] + later, flyTrick[i], flyBar[i])
                        || !probe.isGood(i, again)) {
                    return i + 1;
                }
            }
            return rig.isBy(barBefore(count), endBoard, endTick + later) ? NONE : count + 1;
        }

        /** The bar on which the flyer hangs at a tick of the act, or 10 and the trick. */
        int stateAt(Tricks tricks, int asked) {
            if (asked < tick || asked > endTick) {
                return NONE;
            }
            for (int i = 0; i < count && i < MOST_FLIGHTS; i++) {
                if (asked <= flyTick[i]) {
                    return barBefore(i);
                }
                if (asked < cameTo(tricks, i + 1)) {
                    return IN_AIR + flyTrick[i];
                }
            }
            return barBefore(count);
        }

        /** Writes where the flyer is, tick by tick from the first one on: a bar, or AIR and a place. */
        void writeTrack(Rig rig, int later, int[] row) {
            for (int i = 0; i <= count && i <= MOST_FLIGHTS; i++) {
                int from = barBefore(i);
                boolean flies = i < count && i < MOST_FLIGHTS;
                int leaves = flies ? flyTick[i] : endTick;
                for (int t = cameTo(rig.tricks, i); t <= leaves; t++) {
                    put(row, t, from);
                }
                if (flies) {
                    int left = rig.bars.placeAt(from, leaves + later);
                    int speed = rig.bars.speedAt(from, leaves + later);
                    for (int t = leaves + 1; t < cameTo(rig.tricks, i + 1); t++) {
                        put(row, t, AIR + left + (t - leaves) * speed);
                    }
                }
            }
        }

        private void put(int[] row, int t, int what) {
            int k = t - tick;
            if (k >= 0 && k < row.length) {
                row[k] = what;
            }
        }

        static boolean clash(int a, int b) {
            boolean bothFly = a >= MOST_BARS && b >= MOST_BARS;
            return a == b || bothFly && Math.abs(a - b) <= NEAR_IN_AIR;
        }
    }

    /** Acts laid beside each other. */
    private static final class Bill {
        private Act[] acts = newActs();
        private Act[] unread = newActs();
        private final int[][] tracks = new int[MOST_ACTS][ACT_TICKS];
        private final int[] planTrack = new int[ACT_TICKS];
        private int count;

        private static Act[] newActs() {
            Act[] made = new Act[MOST_ACTS];
            for (int i = 0; i < MOST_ACTS; i++) {
                made[i] = new Act();
            }
            return made;
        }

        Act actAt(int i) {
            return i >= 0 && i < count && i < MOST_ACTS ? acts[i] : null;
        }

        /** An act to be written while it is not sure yet that the bill will be as read. */
        Act unreadAt(int i) {
            return i >= 0 && i < MOST_ACTS ? unread[i] : null;
        }

        void takeUnread(int newCount) {
            Act[] old = acts;
            acts = unread;
            unread = old;
            count = Math.max(0, Math.min(MOST_ACTS, newCount));
        }

        int add(Act act, int shift) {
            if (count < MOST_ACTS) {
                acts[count].copyFrom(act, shift);
                count++;
            }
            return count;
        }

        int leastShift(Rig rig, Flight probe, Act plan, int from) {
            for (int i = 0; i < count && i < MOST_ACTS; i++) {
                acts[i].writeTrack(rig, acts[i].shift, tracks[i]);
            }
            for (int shift = Math.max(0, from); shift <= MOST_SHIFT; shift++) {
                if (plan.firstWrong(rig, probe, shift) == NONE) {
                    plan.writeTrack(rig, shift, planTrack);
                    if (fitsIn(plan, shift)) {
                        return shift;
                    }
                }
            }
            return NONE;
        }

        private boolean fitsIn(Act plan, int shift) {
            for (int i = 0; i < count && i < MOST_ACTS; i++) {
                if (firstClash(plan, shift, planTrack, i) != NONE) {
                    return false;
                }
            }
            return true;
        }

        /** The first tick at which an act with its track clashes with act i, whose track is written. */
        private int firstClash(Act act, int shift, int[] track, int i) {
            Act other = acts[i];
            int begin = act.tick + shift;
            int otherBegin = other.tick + other.shift;
            int end = Math.min(act.endTick + shift, other.endTick + other.shift);
            for (int t = Math.max(begin, otherBegin); t <= end; t++) {
                int a = t - begin;
                int b = t - otherBegin;
                if (a < track.length && b < tracks[i].length && Act.clash(track[a], tracks[i][b])) {
                    return t;
                }
            }
            return NONE;
        }

        int firstQuarrel(Rig rig, int one, int two) {
            Act act = actAt(one);
            Act other = actAt(two);
            if (act == null || other == null) {
                return NONE;
            }
            act.writeTrack(rig, act.shift, tracks[one]);
            other.writeTrack(rig, other.shift, tracks[two]);
            return firstClash(act, act.shift, tracks[one], two);
        }

        int worthTold() {
            int all = 0;
            for (int i = 0; i < count && i < MOST_ACTS; i++) {
                all += acts[i].worthTold();
            }
            return all;
        }

        int lastEnd() {
            int last = 0;
            for (int i = 0; i < count && i < MOST_ACTS; i++) {
                last = Math.max(last, acts[i].endTick + acts[i].shift);
            }
            return last;
        }

        /** The most are there at a tick at which one comes in, so only those are looked at. */
        int mostAtOnce() {
            int most = 0;
            for (int i = 0; i < count && i < MOST_ACTS; i++) {
                int tick = acts[i].tick + acts[i].shift;
                int there = 0;
                for (int j = 0; j < count && j < MOST_ACTS; j++) {
                    int begin = acts[j].tick + acts[j].shift;
                    int end = acts[j].endTick + acts[j].shift;
                    there += begin <= tick && tick <= end ? 1 : 0;
                }
                most = Math.max(most, there);
            }
            return most;
        }
    }

    /** Writes a bill as bytes and reads one back. */
    private static final class Image {
        private static final int ROOM = 2 + MOST_ACTS * (8 + 5 * MOST_FLIGHTS);

        private final int[] bytes = new int[ROOM];
        private int length;
        private int sum;

        int byteAt(int k) {
            return k >= 0 && k < length && k < bytes.length ? bytes[k] : NONE;
        }

        private void count(int octet) {
            sum = (5 * sum + octet) % 241;
        }

        private void put(int octet) {
            count(octet);
            if (length < bytes.length) {
                bytes[length] = octet;
                length++;
            }
        }

        private void putTwo(int number) {
            put((number >> 8) & 255);
            put(number & 255);
        }

        int write(Bill bill) {
            length = 0;
            sum = 9;
            put(bill.count);
            for (int i = 0; i < bill.count; i++) {
                Act act = bill.actAt(i);
                if (act != null) {
                    writeAct(act);
                }
            }
            put(sum);
            return length;
        }

        private void writeAct(Act act) {
            putTwo(act.shift);
            put(act.board);
            put(act.tick);
            put(act.bar);
            put(act.count);
            for (int i = 0; i < act.count && i < MOST_FLIGHTS; i++) {
                put(act.flyTick[i]);
                put(act.flyTrick[i]);
                put(act.flyBar[i]);
                putTwo(act.flyWorth[i]);
            }
            put(act.endTick);
            put(act.endBoard);
        }

        /** The next byte, or NONE behind the last one: no check lets that through. */
        private int get(Tape tape) {
            int octet = tape.nextByte();
            count(Math.max(0, octet));
            return octet;
        }

        private int getTwo(Tape tape) {
            int high = get(tape);
            int low = get(tape);
            return high == NONE || low == NONE ? NONE : 256 * high + low;
        }

        /** The bill stays as it is unless all of the tape is an image. */
        boolean read(Tape tape, Rig rig, Bill bill) {
            tape.cursor = 0;
            sum = 9;
            int acts = get(tape);
            if (!within(acts, 0, MOST_ACTS)) {
                return false;
            }
            for (int i = 0; i < acts; i++) {
                Act act = bill.unreadAt(i);
                if (act == null || !readAct(tape, rig, act)) {
                    return false;
                }
            }
            if (tape.byteAt(tape.cursor) != sum || tape.cursor + 1 != tape.length) {
                return false;
            }
            bill.takeUnread(acts);
            return true;
        }

        private boolean readAct(Tape tape, Rig rig, Act act) {
            int shift = getTwo(tape);
            int board = get(tape);
            int tick = get(tape);
            int bar = get(tape);
            int flights = get(tape);
            if (!within(shift, 0, MOST_SHIFT) || !rig.boards.isThere(board) || !within(tick, 0, LAST_TICK)
                    || !rig.bars.isThere(bar) || !within(flights, 0, MOST_FLIGHTS)) {
                return false;
            }
            act.begin(board, tick, bar);
            act.shift = shift;
            for (int i = 0; i < flights; i++) {
                if (!readFlight(tape, rig, act)) {
                    return false;
                }
            }
            int endTick = get(tape);
            int endBoard = get(tape);
            act.finish(endTick, endBoard);
            return within(endTick, act.cameTo(rig.tricks, flights), LAST_TICK) && rig.boards.isThere(endBoard);
        }

        private boolean readFlight(Tape tape, Rig rig, Act act) {
            int tick = get(tape);
            int trick = get(tape);
            int to = get(tape);
            int worth = getTwo(tape);
            if (!within(tick, act.cameTo(rig.tricks, act.count), LAST_TICK) || !rig.tricks.isThere(trick)
                    || !rig.bars.isThere(to) || to == act.barBefore(act.count)
                    || !within(worth, 0, MOST_WORTH)) {
                return false;
            }
            act.addFlight(tick, trick, to, worth);
            return true;
        }
    }
}
