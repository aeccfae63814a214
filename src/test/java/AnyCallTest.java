import java.util.Random;

/** Calls of all kinds with any arguments in any state: none throws, and the same calls answer alike. */
public final class AnyCallTest {
    private static final int[] EDGES = {Integer.MIN_VALUE, Integer.MAX_VALUE, -1, 0, 1, 2, 7, 8, 9, 39, 40, 80, 81,
        119, 120, 400, 401, 500, 501, 1000, 1001, -2, 1 << 30};

    public static void main(String[] args) {
        Checks checks = new Checks();
        for (int seed = 0; seed < 400; seed++) {
            checks.due("seed " + seed, run(seed), run(seed));
        }
        checks.finish();
    }

    private static int number(Random random) {
        int kind = random.nextInt(10);
        if (kind == 0) {
            return EDGES[random.nextInt(EDGES.length)];
        }
        return kind == 1 ? random.nextInt() : kind < 7 ? random.nextInt(4) : random.nextInt(90);
    }

    private static long run(int seed) {
        Random random = new Random(seed);
        FlyingBars x = new FlyingBars();
        long sum = 0;
        for (int calls = 0; calls < 400; calls++) {
            if (random.nextInt(30) == 0) {
                sum = 31 * sum + text(x, random);
            }
            sum = 31 * sum + call(x, random, random.nextInt(40));
        }
        return sum;
    }

    /** A rig, now and then with a byte changed, or an image with one changed. */
    private static int text(FlyingBars x, Random random) {
        byte[] bytes = Checks.imageOf(x);
        boolean rig = random.nextBoolean();
        if (rig) {
            bytes = new Model(random.nextInt(1000), 5, 4).text.getBytes();
        }
        if (random.nextInt(3) == 0 && bytes.length > 0) {
            bytes[random.nextInt(bytes.length)] = (byte) random.nextInt();
        }
        x.end(0);
        Checks.lay(x, bytes);
        return rig ? x.rig() + x.fault(1) : x.on() ? 1 : 0;
    }

    private static int call(FlyingBars x, Random random, int which) {
        int a = number(random);
        int b = number(random);
        int c = number(random);
        int d = number(random);
        int e = number(random);
        boolean f = random.nextBoolean();
        switch (which) {
            case 0: return x.feed(a, b, c, d, e);
            case 1: return x.end(a) ? 1 : 0;
            case 2: return random.nextInt(9) == 0 ? x.rig() : x.round();
            case 3: return x.fault(a);
            case 4: return x.has(a);
            case 5: return x.letter(a, b, c);
            case 6: return x.change(a, b, c, d) ? 1 : 0;
            case 7: return x.where(a, b);
            case 8: return x.speed(a, b);
            case 9: return x.round();
            case 10: return x.flight(a, b, c, d, e, f, number(random));
            case 11: return x.window(a, b, c, d);
            case 12: return x.best(a, b, c, d);
            case 13: return x.soonest(a, b, c, d);
            case 14: return x.ways(a, b, c, d);
            case 15: return x.nearest(a, b, c, f);
            case 16: return x.idle(a);
            case 17: return x.barred(a, b, c, d, f, e);
            case 18: return x.reached(a, b, c);
            case 19: return x.take(a, b, c) ? 1 : 0;
            case 20: return x.fly(a, b, c) ? 1 : 0;
            case 21: return x.down(a, b) ? 1 : 0;
            case 22: return x.plan(a);
            case 23: return x.step(a, b);
            case 24: return x.book(a);
            case 25: return random.nextInt(4) == 0 ? x.unbook() : x.shift();
            case 26: return x.shift();
            case 27: return x.quarrel(a, b);
            case 28: return x.at(a, b);
            case 29: return x.fails(a);
            case 30: return x.slack(a, b, f);
            case 31: return x.fill(a, b, c, d);
            case 32: return x.bill(a);
            case 33: return x.image();
            case 34: return x.octet(a);
            case 35: return x.on() ? 1 : 0;
            case 36: return x.best(a & 1, b & 1, c & 7, 80);
            case 37: return x.book(a & 255);
            case 38: return x.fill(a & 1, b & 1, c & 7, 60);
            default: return x.change(a & 3, 4 + (b & 15), c & 15, d & 31) ? 1 : 0;
        }
    }
}
