import java.math.BigInteger;
import java.util.ArrayList;
import java.util.Collections;
import java.util.HashMap;
import java.util.List;
import java.util.Map;
import java.util.Random;

/** A rig made at random and looked at in the most naive way, told once more from the document's terms. */
final class Model {
    interface Value {
        long of(int[] facts);
    }

    record Told(String text, Value value) {
    }

    /** Worth, end, how many flights, then the row: tick, bar, and tick, trick, bar of each flight. */
    record Found(int worth, int end, List<Integer> row) {
        int flights() {
            return (row.size() - 2) / 3;
        }

        boolean isAhead(Found other) {
            if (other == null || worth != other.worth) {
                return other == null || worth > other.worth;
            }
            if (end != other.end || flights() != other.flights()) {
                return end != other.end ? end < other.end : flights() < other.flights();
            }
            for (int i = 0; i < row.size(); i++) {
                if (!row.get(i).equals(other.row.get(i))) {
                    return row.get(i) < other.row.get(i);
                }
            }
            return false;
        }
    }

    static final String[] FACTS = {"miss", "swing", "gap", "tick", "thrown", "caught", "done", "again"};

    final Random random;
    final int bars;
    final int[] place = new int[8];
    final int[] period = new int[8];
    final int[] phase = new int[8];
    final int[] reach = new int[8];
    final boolean[] catcher = new boolean[8];
    final int boards;
    final int[] boardPlace = new int[4];
    final int tricks;
    final int[] ticks = new int[8];
    final int[] arms = new int[8];
    final Value[] worth = new Value[8];
    final Value[] test = new Value[8];
    final String text;
    int noBar = -1;
    int noTrick = -1;

    Model(long seed, int mostBars, int mostTricks) {
        random = new Random(seed);
        StringBuilder told = new StringBuilder();
        bars = 1 + random.nextInt(mostBars);
        boards = 1 + random.nextInt(3);
        tricks = random.nextInt(mostTricks + 1);
        int spread = 10 + random.nextInt(60);
        for (int i = 0; i < bars; i++) {
            place[i] = 50 + random.nextInt(spread);
            period[i] = 4 + random.nextInt(random.nextInt(4) == 0 ? 37 : 8);
            phase[i] = random.nextInt(40);
            reach[i] = random.nextInt(random.nextInt(3) == 0 ? 61 : 25);
            told.append("bar ").append(name('b', i)).append(" at ").append(place[i]).append(" every ")
                    .append(period[i]).append(" from ").append(phase[i]).append(" reach ").append(reach[i])
                    .append(";");
            if (random.nextInt(3) == 0) {
                catcher[i] = true;
                told.append(random.nextBoolean() ? "catcher " : "\n catcher\n").append(name('b', i)).append(" ;");
            }
        }
        for (int i = 0; i < boards; i++) {
            boardPlace[i] = 40 + random.nextInt(spread + 20);
            told.append("board ").append(name('p', i)).append(" at ").append(boardPlace[i]).append("; ");
        }
        for (int i = 0; i < tricks; i++) {
            ticks[i] = 1 + random.nextInt(random.nextInt(4) == 0 ? 20 : 5);
            arms[i] = random.nextInt(41);
            Told sum = random.nextInt(4) == 0 ? part(0) : sum(2);
            Told fact = random.nextInt(3) == 0 ? new Told("all", v -> 1) : test(2);
            int room = (890 - told.length()) / (tricks - i) - 45;
            while (sum.text.length() + fact.text.length() > room) {
                sum = sum(random.nextInt(2));
                fact = fact(random.nextInt(2));
            }
            worth[i] = sum.value;
            test[i] = fact.value;
            told.append("trick ").append(name('t', i)).append(" ticks ").append(ticks[i]).append(" arms ")
                    .append(arms[i]).append(" worth ").append(sum.text).append(" when ").append(fact.text)
                    .append(";");
        }
        text = told.toString();
    }

    static String name(char kind, int i) {
        return "" + kind + (char) ('a' + i);
    }

    private static long bound(long x) {
        return Math.max(-1000000, Math.min(1000000, x));
    }

    private Told sum(int deep) {
        Told left = product(deep);
        for (int i = random.nextInt(3); i > 0; i--) {
            Told a = left;
            Told b = product(deep);
            boolean plus = random.nextBoolean();
            left = new Told(a.text + (plus ? " + " : "-") + b.text,
                    v -> bound(plus ? a.value.of(v) + b.value.of(v) : a.value.of(v) - b.value.of(v)));
        }
        return left;
    }

    private Told product(int deep) {
        Told left = part(deep);
        for (int i = random.nextInt(4) / 2; i > 0; i--) {
            Told a = left;
            Told b = part(deep);
            boolean times = random.nextBoolean();
            left = new Told(a.text + (times ? "*" : " / ") + b.text, v -> {
                long x = a.value.of(v);
                long y = b.value.of(v);
                return times ? bound(x * y) : y == 0 ? 0 : Math.floorDiv(x, y);
            });
        }
        return left;
    }

    private Told part(int deep) {
        int kind = random.nextInt(deep > 0 ? 6 : 3);
        if (kind == 0) {
            int number = random.nextInt(random.nextInt(5) == 0 ? 10000 : 60);
            return new Told("" + number, v -> number);
        }
        if (kind <= 2) {
            int fact = random.nextInt(FACTS.length);
            return new Told(FACTS[fact], v -> v[fact]);
        }
        Told a = sum(deep - 1);
        if (kind == 3) {
            return new Told("(" + a.text + ")", a.value);
        }
        Told b = sum(deep - 1);
        return new Told((kind == 4 ? "min(" : "max (") + a.text + "," + b.text + " )",
                v -> kind == 4 ? Math.min(a.value.of(v), b.value.of(v)) : Math.max(a.value.of(v), b.value.of(v)));
    }

    private Told test(int deep) {
        Told left = both(deep);
        for (int i = random.nextInt(2); i > 0; i--) {
            Told a = left;
            Told b = both(deep);
            left = new Told(a.text + " or " + b.text, v -> a.value.of(v) + b.value.of(v) > 0 ? 1 : 0);
        }
        return left;
    }

    private Told both(int deep) {
        Told left = fact(deep);
        for (int i = random.nextInt(2); i > 0; i--) {
            Told a = left;
            Told b = fact(deep);
            left = new Told(a.text + " and " + b.text, v -> a.value.of(v) * b.value.of(v));
        }
        return left;
    }

    private Told fact(int deep) {
        int kind = random.nextInt(deep > 0 ? 7 : 4);
        if (kind == 4) {
            Told a = fact(deep - 1);
            return new Told("not " + a.text, v -> 1 - a.value.of(v));
        }
        if (kind == 5) {
            Told a = test(deep - 1);
            return new Told("[" + a.text + "]", a.value);
        }
        if (kind == 6) {
            return new Told("all", v -> 1);
        }
        Told a = sum(deep - 1);
        Told b = sum(deep - 1);
        char sign = "<>=".charAt(random.nextInt(3));
        return new Told(a.text + sign + b.text, v -> {
            long x = a.value.of(v);
            long y = b.value.of(v);
            return (sign == '<' ? x < y : sign == '>' ? x > y : x == y) ? 1 : 0;
        });
    }

    int where(int bar, int tick) {
        int s = (tick + phase[bar]) % period[bar];
        int d = Math.min(s, period[bar] - s);
        return place[bar] + reach[bar] - 4 * reach[bar] * d / period[bar];
    }

    int speed(int bar, int tick) {
        return where(bar, tick + 1) - where(bar, tick);
    }

    boolean by(int bar, int board, int tick) {
        return Math.abs(where(bar, tick) - boardPlace[board]) <= 5;
    }

    int miss(int from, int tick, int trick, int to) {
        int lands = where(from, tick) + ticks[trick] * speed(from, tick);
        return Math.abs(lands - where(to, tick + ticks[trick]));
    }

    private int[] facts(int from, int tick, int trick, int to, int done, boolean again) {
        return new int[] {miss(from, tick, trick, to), Math.abs(speed(from, tick)),
            Math.abs(where(from, tick) - where(to, tick + ticks[trick])), tick, catcher[from] ? 1 : 0,
            catcher[to] ? 1 : 0, done, again ? 1 : 0};
    }

    boolean good(int from, int tick, int trick, int to, int done, boolean again) {
        return from != to && miss(from, tick, trick, to) <= arms[trick]
                && test[trick].of(facts(from, tick, trick, to, done, again)) == 1;
    }

    int worth(int from, int tick, int trick, int to, int done, boolean again) {
        return (int) Math.max(0, Math.min(1000, worth[trick].of(facts(from, tick, trick, to, done, again))));
    }

    /** Every act, one by one; each as found. Gives up (null) above so many. */
    List<Found> all(int from, int to, int n, int by, int most) {
        List<Found> found = new ArrayList<>();
        for (int t = 0; t <= by; t++) {
            for (int b = 0; b < bars; b++) {
                if (b != noBar && by(b, from, t)) {
                    List<Integer> row = new ArrayList<>(List.of(t, b));
                    if (!go(found, row, to, n, by, b, t, 0, most)) {
                        return null;
                    }
                }
            }
        }
        return found;
    }

    private boolean go(List<Found> found, List<Integer> row, int to, int n, int by, int bar, int came, int worth,
            int most) {
        int done = (row.size() - 2) / 3;
        int last = done == 0 ? -1 : row.get(row.size() - 2);
        for (int t = came; t <= by; t++) {
            if (by(bar, to, t)) {
                found.add(new Found(worth, t, new ArrayList<>(row)));
                if (found.size() > most) {
                    return false;
                }
            }
            for (int j = 0; done < n && j < tricks; j++) {
                for (int c = 0; c < bars; c++) {
                    if (j == noTrick || c == noBar || t + ticks[j] > by || !good(bar, t, j, c, done, j == last)) {
                        continue;
                    }
                    row.addAll(List.of(t, j, c));
                    int more = worth(bar, t, j, c, done, j == last);
                    boolean well = go(found, row, to, n, by, c, t + ticks[j], worth + more, most);
                    row.subList(row.size() - 3, row.size()).clear();
                    if (!well) {
                        return false;
                    }
                }
            }
        }
        return true;
    }

    static Found bestOf(List<Found> found) {
        Found best = null;
        for (Found one : found) {
            if (one.isAhead(best)) {
                best = one;
            }
        }
        return best;
    }

    private final Map<Integer, BigInteger> counted = new HashMap<>();

    /** All ways, by a sum over states without waiting. */
    BigInteger ways(int from, int to, int n, int by) {
        counted.clear();
        BigInteger all = BigInteger.ZERO;
        for (int t = 0; t <= by; t++) {
            for (int b = 0; b < bars; b++) {
                if (by(b, from, t)) {
                    all = all.add(waysOn(to, n, by, b, t, 0, 8));
                }
            }
        }
        return all;
    }

    private BigInteger waysOn(int to, int n, int by, int bar, int came, int done, int last) {
        int key = ((bar * 100 + came) * 10 + done) * 10 + last;
        BigInteger known = counted.get(key);
        if (known != null) {
            return known;
        }
        BigInteger all = BigInteger.ZERO;
        for (int t = came; t <= by; t++) {
            all = by(bar, to, t) ? all.add(BigInteger.ONE) : all;
            for (int j = 0; done < n && j < tricks; j++) {
                for (int c = 0; c < bars; c++) {
                    if (t + ticks[j] <= by && good(bar, t, j, c, done, j == last)) {
                        all = all.add(waysOn(to, n, by, c, t + ticks[j], done + 1, j));
                    }
                }
            }
        }
        counted.put(key, all);
        return all;
    }

    private final Map<Integer, Found> bestKnown = new HashMap<>();
    private static final Found NO_WAY = new Found(-1, 0, Collections.emptyList());

    /** The best act, by the best ways on from states, rows compared as rows. */
    Found best(int from, int to, int n, int by) {
        bestKnown.clear();
        Found best = null;
        for (int t = 0; t <= by; t++) {
            for (int b = 0; b < bars; b++) {
                if (b != noBar && by(b, from, t)) {
                    Found on = bestOn(to, n, by, b, t, 0, 8);
                    if (on != NO_WAY && on.isAhead(best)) {
                        best = on;
                    }
                }
            }
        }
        return best;
    }

    private Found bestOn(int to, int n, int by, int bar, int came, int done, int last) {
        int key = ((bar * 100 + came) * 10 + done) * 10 + last;
        Found known = bestKnown.get(key);
        if (known != null) {
            return known;
        }
        Found best = null;
        for (int t = came; t <= by; t++) {
            if (by(bar, to, t)) {
                Found here = new Found(0, t, List.of(came, bar));
                best = here.isAhead(best) ? here : best;
            }
            for (int j = 0; done < n && j < tricks; j++) {
                for (int c = 0; c < bars; c++) {
                    if (j == noTrick || c == noBar || t + ticks[j] > by || !good(bar, t, j, c, done, j == last)) {
                        continue;
                    }
                    Found rest = bestOn(to, n, by, c, t + ticks[j], done + 1, j);
                    if (rest == NO_WAY) {
                        continue;
                    }
                    List<Integer> row = new ArrayList<>(List.of(came, bar, t, j, c));
                    row.addAll(rest.row.subList(2, rest.row.size()));
                    Found here = new Found(rest.worth + worth(bar, t, j, c, done, j == last), rest.end, row);
                    best = here.isAhead(best) ? here : best;
                }
            }
        }
        bestKnown.put(key, best == null ? NO_WAY : best);
        return best == null ? NO_WAY : best;
    }
}
