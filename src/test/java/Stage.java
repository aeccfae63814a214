import java.util.ArrayList;
import java.util.LinkedHashSet;
import java.util.List;
import java.util.Set;
import java.util.TreeMap;
import java.util.TreeSet;

/**
 * A plan and a bill over a Model, by the document's words and in the plainest way: where each flyer is stands in a
 * map by ticks, and every call works all of it out anew.
 */
final class Stage {
    static final int NONE = -1;

    /** One flight, as it was told. */
    record Flown(int tick, int trick, int to, int worth) {
    }

    /** An act, with its shift when it is on the bill; down is NONE as long as it has not gone down. */
    record Act(int shift, int board, int tick, int bar, List<Flown> flights, int down, int downBoard) {
        Act with(Flown more) {
            List<Flown> all = new ArrayList<>(flights);
            all.add(more);
            return new Act(shift, board, tick, bar, List.copyOf(all), down, downBoard);
        }

        Act wentDown(int newTick, int newBoard) {
            return new Act(shift, board, tick, bar, flights, newTick, newBoard);
        }

        Act shifted(int by) {
            return new Act(by, board, tick, bar, flights, down, downBoard);
        }

        int lastBar() {
            return flights.isEmpty() ? bar : flights.get(flights.size() - 1).to;
        }

        int lastTrick() {
            return flights.isEmpty() ? NONE : flights.get(flights.size() - 1).trick;
        }

        int worth() {
            return flights.stream().mapToInt(Flown::worth).sum();
        }
    }

    /** Where a flyer is at a tick: on a bar, or (bar NONE) in the air by a trick at a place. */
    record Spot(int bar, int trick, int place) {
        boolean quarrels(Spot other) {
            if (bar != NONE || other.bar != NONE) {
                return bar == other.bar;
            }
            return Math.abs(place - other.place) <= 2;
        }
    }

    final Model model;
    Act plan;
    List<Act> bill = new ArrayList<>();
    int[] image = {};

    Stage(Model model) {
        this.model = model;
    }

    private static boolean in(int x, int low, int high) {
        return low <= x && x <= high;
    }

    boolean isBar(int bar) {
        return in(bar, 0, model.bars - 1);
    }

    boolean isBoard(int board) {
        return in(board, 0, model.boards - 1);
    }

    boolean isTrick(int trick) {
        return in(trick, 0, model.tricks - 1);
    }

    private boolean canSeek(int from, int to, int n, int by) {
        return isBoard(from) && isBoard(to) && in(n, 0, 8) && in(by, 0, 80);
    }

    boolean change(int bar, int period, int phase, int reach) {
        if (!isBar(bar) || !in(period, 4, 40) || !in(phase, 0, 39) || !in(reach, 0, 60)) {
            return false;
        }
        model.period[bar] = period;
        model.phase[bar] = phase;
        model.reach[bar] = reach;
        return true;
    }

    // ---- acts that are sought

    int best(int from, int to, int n, int by) {
        Model.Found found = canSeek(from, to, n, by) ? model.best(from, to, n, by) : null;
        if (found == null) {
            return NONE;
        }
        plan = new Act(0, from, found.row().get(0), found.row().get(1), List.of(), NONE, NONE);
        for (int i = 2; i < found.row().size(); i += 3) {
            plan = plan.with(flown(found.row().get(i), found.row().get(i + 1), found.row().get(i + 2)));
        }
        plan = plan.wentDown(found.end(), to);
        return found.worth();
    }

    int barred(int from, int to, int n, int by, boolean trick, int which) {
        if (!canSeek(from, to, n, by) || !(trick ? isTrick(which) : isBar(which))) {
            return NONE;
        }
        model.noBar = trick ? NONE : which;
        model.noTrick = trick ? which : NONE;
        Model.Found found = model.best(from, to, n, by);
        model.noBar = NONE;
        model.noTrick = NONE;
        return found == null ? NONE : found.worth();
    }

    int ways(int from, int to, int n, int by) {
        return canSeek(from, to, n, by) ? (int) Math.min(1000000000, model.ways(from, to, n, by).doubleValue()) : NONE;
    }

    /** All comings (bar, tick, trick of the flight) with so many flights, by a tick. */
    private List<Set<List<Integer>>> comings(int from, int n, int by) {
        List<Set<List<Integer>>> all = new ArrayList<>();
        for (int done = 0; done <= n; done++) {
            all.add(new LinkedHashSet<>());
        }
        for (int bar = 0; bar < model.bars; bar++) {
            for (int tick = 0; tick <= by; tick++) {
                if (model.by(bar, from, tick)) {
                    all.get(0).add(List.of(bar, tick, NONE));
                }
            }
        }
        for (int done = 0; done < n; done++) {
            for (List<Integer> came : all.get(done)) {
                flyOn(came, done, by, all.get(done + 1));
            }
        }
        return all;
    }

    private void flyOn(List<Integer> came, int done, int by, Set<List<Integer>> into) {
        for (int tick = came.get(1); tick <= by; tick++) {
            for (int trick = 0; trick < model.tricks; trick++) {
                for (int to = 0; to < model.bars && tick + model.ticks[trick] <= by; to++) {
                    if (model.good(came.get(0), tick, trick, to, done, came.get(2) == trick)) {
                        into.add(List.of(to, tick + model.ticks[trick], trick));
                    }
                }
            }
        }
    }

    int soonest(int from, int to, int m, int n) {
        if (!canSeek(from, to, n, 80) || !in(m, 0, 8)) {
            return NONE;
        }
        TreeSet<Integer> ends = new TreeSet<>();
        List<Set<List<Integer>>> comings = comings(from, n, 80);
        for (int done = m; done <= n; done++) {
            for (List<Integer> came : comings.get(done)) {
                for (int tick = came.get(1); tick <= 80; tick++) {
                    if (model.by(came.get(0), to, tick)) {
                        ends.add(tick);
                    }
                }
            }
        }
        return ends.isEmpty() ? NONE : ends.first();
    }

    int reached(int from, int n, int by) {
        if (!canSeek(from, from, n, by)) {
            return NONE;
        }
        int bits = 0;
        for (Set<List<Integer>> some : comings(from, n, by)) {
            for (List<Integer> came : some) {
                bits |= 1 << came.get(0);
            }
        }
        return bits;
    }

    // ---- the plan

    private Flown flown(int tick, int trick, int to) {
        int worth = model.worth(plan.lastBar(), tick, trick, to, plan.flights.size(), plan.lastTrick() == trick);
        return new Flown(tick, trick, to, worth);
    }

    int came(Act act) {
        int last = act.flights.size() - 1;
        return last < 0 ? act.tick : act.flights.get(last).tick + model.ticks[act.flights.get(last).trick];
    }

    boolean take(int board, int tick, int bar) {
        if (!isBoard(board) || !isBar(bar) || !in(tick, 0, 80) || !model.by(bar, board, tick)) {
            return false;
        }
        plan = new Act(0, board, tick, bar, List.of(), NONE, NONE);
        return true;
    }

    boolean canFly(int tick, int trick, int to) {
        return plan != null && plan.down == NONE && plan.flights.size() < 8 && isTrick(trick) && isBar(to)
                && tick >= came(plan) && tick + model.ticks[trick] <= 80
                && model.good(plan.lastBar(), tick, trick, to, plan.flights.size(), plan.lastTrick() == trick);
    }

    boolean fly(int tick, int trick, int to) {
        boolean can = canFly(tick, trick, to);
        plan = can ? plan.with(flown(tick, trick, to)) : plan;
        return can;
    }

    boolean canGoDown(int tick, int board) {
        return plan != null && plan.down == NONE && isBoard(board) && in(tick, came(plan), 80)
                && model.by(plan.lastBar(), board, tick);
    }

    boolean down(int tick, int board) {
        boolean can = canGoDown(tick, board);
        plan = can ? plan.wentDown(tick, board) : plan;
        return can;
    }

    int plan(int what) {
        if (plan == null || !in(what, 0, 5)) {
            return NONE;
        }
        return new int[] {plan.tick, plan.bar, plan.board, plan.down, plan.downBoard, plan.worth()}[what];
    }

    int step(int i, int what) {
        if (plan == null || !in(i, 0, plan.flights.size() - 1) || !in(what, 0, 3)) {
            return NONE;
        }
        Flown one = plan.flights.get(i);
        return new int[] {one.tick, one.trick, one.to, one.worth}[what];
    }

    // ---- the bill

    boolean isAct(int act) {
        return in(act, 0, bill.size() - 1);
    }

    private int fails(Act act) {
        if (!model.by(act.bar, act.board, act.tick + act.shift)) {
            return 0;
        }
        int bar = act.bar;
        int last = NONE;
        for (int i = 0; i < act.flights.size(); i++) {
            Flown one = act.flights.get(i);
            if (!model.good(bar, one.tick + act.shift, one.trick, one.to, i, one.trick == last)) {
                return i + 1;
            }
            bar = one.to;
            last = one.trick;
        }
        return model.by(bar, act.downBoard, act.down + act.shift) ? NONE : act.flights.size() + 1;
    }

    int fails(int act) {
        return isAct(act) ? fails(bill.get(act)) : NONE;
    }

    private TreeMap<Integer, Spot> spots(Act act) {
        TreeMap<Integer, Spot> spots = new TreeMap<>();
        int bar = act.bar;
        int came = act.tick + act.shift;
        for (Flown one : act.flights) {
            int left = one.tick + act.shift;
            for (int tick = came; tick <= left; tick++) {
                spots.put(tick, new Spot(bar, NONE, 0));
            }
            came = left + model.ticks[one.trick];
            for (int tick = left + 1; tick < came; tick++) {
                spots.put(tick, new Spot(NONE, one.trick, model.where(bar, left) + (tick - left) * model.speed(bar, left)));
            }
            bar = one.to;
        }
        for (int tick = came; tick <= act.down + act.shift; tick++) {
            spots.put(tick, new Spot(bar, NONE, 0));
        }
        return spots;
    }

    private int quarrel(Act one, Act two) {
        TreeMap<Integer, Spot> other = spots(two);
        for (var spot : spots(one).entrySet()) {
            if (other.containsKey(spot.getKey()) && spot.getValue().quarrels(other.get(spot.getKey()))) {
                return spot.getKey();
            }
        }
        return NONE;
    }

    int quarrel(int first, int second) {
        return isAct(first) && isAct(second) && first != second ? quarrel(bill.get(first), bill.get(second)) : NONE;
    }

    boolean isGoodBy(int shift) {
        return plan != null && plan.down != NONE && in(shift, 0, 400) && fails(plan.shifted(shift)) == NONE;
    }

    int book(int shift) {
        if (!isGoodBy(shift) || bill.size() == 6) {
            return NONE;
        }
        bill.add(plan.shifted(shift));
        return bill.size();
    }

    int unbook() {
        if (bill.isEmpty()) {
            return NONE;
        }
        bill.remove(bill.size() - 1);
        return bill.size();
    }

    int shift() {
        for (int shift = 0; shift <= 400; shift++) {
            int by = shift;
            if (isGoodBy(by) && bill.stream().allMatch(act -> quarrel(plan.shifted(by), act) == NONE)) {
                return shift;
            }
        }
        return NONE;
    }

    int at(int act, int tick) {
        Spot spot = isAct(act) && in(tick, 0, 500) ? spots(bill.get(act)).get(tick) : null;
        if (spot == null) {
            return NONE;
        }
        return spot.bar != NONE ? spot.bar : 10 + spot.trick;
    }

    int slack(int act, int bar, boolean grows) {
        if (!isAct(act) || !isBar(bar) || fails(act) != NONE) {
            return NONE;
        }
        int phase = model.phase[bar];
        int found = NONE;
        for (int by = 1; by <= 39 && found == NONE; by++) {
            model.phase[bar] = Math.floorMod(grows ? phase + by : phase - by, model.period[bar]);
            found = fails(act) == NONE ? NONE : by;
        }
        model.phase[bar] = phase;
        return found;
    }

    int fill(int from, int to, int n, int by) {
        if (!canSeek(from, to, n, by)) {
            return NONE;
        }
        int before = bill.size();
        if (before == 6 || best(from, to, n, by) == NONE) {
            return 0;
        }
        while (bill.size() < 6 && book(shift()) != NONE) {
            continue;
        }
        return bill.size() - before;
    }

    int bill(int what) {
        if (!in(what, 0, 2)) {
            return NONE;
        }
        TreeMap<Integer, Integer> flyers = new TreeMap<>();
        int worth = 0;
        int last = 0;
        for (Act act : bill) {
            worth += act.worth();
            last = Math.max(last, act.down + act.shift);
            spots(act).keySet().forEach(tick -> flyers.merge(tick, 1, Integer::sum));
        }
        int most = flyers.values().stream().mapToInt(Integer::intValue).max().orElse(0);
        return new int[] {worth, last, most}[what];
    }

    // ---- images

    int image() {
        List<Integer> all = new ArrayList<>(List.of(bill.size()));
        for (Act act : bill) {
            all.addAll(List.of(act.shift / 256, act.shift % 256, act.board, act.tick, act.bar, act.flights.size()));
            for (Flown one : act.flights) {
                all.addAll(List.of(one.tick, one.trick, one.to, one.worth / 256, one.worth % 256));
            }
            all.addAll(List.of(act.down, act.downBoard));
        }
        byte[] bytes = Checks.sealed(all.stream().mapToInt(Integer::intValue).toArray());
        image = new int[bytes.length];
        for (int i = 0; i < bytes.length; i++) {
            image[i] = bytes[i] & 255;
        }
        return image.length;
    }

    int octet(int k) {
        return in(k, 0, image.length - 1) ? image[k] : NONE;
    }
}
