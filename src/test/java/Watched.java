/**
 * One run of calls on a new object. It counts them: the document promises nothing beyond the 512th, so a test that
 * goes there is wrong itself.
 */
final class Watched {
    static final int MOST_CALLS = 512;

    private final FlyingBars bars = new FlyingBars();
    private int calls;

    private FlyingBars next() {
        calls++;
        if (calls > MOST_CALLS) {
            throw new IllegalStateException("the test makes more than 512 calls on one object");
        }
        return bars;
    }

    int calls() {
        return calls;
    }

    static Watched made(String text) {
        Watched x = new Watched();
        if (x.rig(text) == FlyingBars.NONE) {
            throw new IllegalStateException("fault " + x.fault(0) + " at " + x.fault(1) + ": " + text);
        }
        return x;
    }

    /** Puts bytes behind those on the tape, which are so many. */
    void lay(int ahead, byte[] bytes) {
        for (int fed = 0; fed < bytes.length; fed += 20) {
            int[] words = Checks.words(bytes, fed);
            if (feed(words[0], words[1], words[2], words[3], words[4]) == FlyingBars.NONE) {
                throw new IllegalStateException("no room for " + bytes.length + " bytes behind " + ahead);
            }
        }
        if (!end(ahead + bytes.length)) {
            throw new IllegalStateException("the tape has not " + (ahead + bytes.length) + " bytes");
        }
    }

    void lay(String text) {
        lay(0, bytesOf(text));
    }

    static byte[] bytesOf(String text) {
        byte[] bytes = new byte[text.length()];
        for (int i = 0; i < bytes.length; i++) {
            bytes[i] = (byte) text.charAt(i);
        }
        return bytes;
    }

    int rig(String text) {
        lay(text);
        return rig();
    }

    boolean on(byte[] image) {
        lay(0, image);
        return on();
    }

    /** The octets of the latest image(), without a new one. */
    String octets() {
        StringBuilder all = new StringBuilder();
        int octet = octet(0);
        for (int k = 1; octet != FlyingBars.NONE; k++) {
            all.append(octet).append(' ');
            octet = octet(k);
        }
        return all.toString();
    }

    /** The bytes of a new image of the bill. */
    byte[] imageBytes() {
        byte[] bytes = new byte[image()];
        for (int i = 0; i < bytes.length; i++) {
            bytes[i] = (byte) octet(i);
        }
        return bytes;
    }

    /** All that the other calls show, in some 300 calls; the tape is read at the end, so it is gone then. */
    String look() {
        StringBuilder all = new StringBuilder();
        add(all, "fault", fault(0), fault(1));
        add(all, "has", has(0), has(1), has(2), has(3), has(4), has(5));
        for (int kind = 0; kind < 3; kind++) {
            for (int which = 0; which < has(kind); which++) {
                add(all, "letters", letter(kind, which, 0), letter(kind, which, 1), letter(kind, which, 2));
            }
        }
        for (int bar = 0; bar < has(0); bar++) {
            add(all, "where", where(bar, 0), where(bar, 1), where(bar, 3), where(bar, 4), where(bar, 6), where(bar, 9));
            add(all, "where", where(bar, 12), where(bar, 17), where(bar, 23));
        }
        for (int trick = 0; trick < has(2); trick++) {
            add(all, "flight", flight(0, 6, trick, 1, 0, false, 0), flight(0, 6, trick, 1, 0, false, 1));
            add(all, "worth", flight(0, 6, trick, 1, 2, true, 2), window(0, trick, 1, -1), window(1, trick, 0, -1));
        }
        add(all, "plan", plan(0), plan(1), plan(2), plan(3), plan(4), plan(5));
        for (int i = 0; i < has(5); i++) {
            add(all, "step", step(i, 0), step(i, 1), step(i, 2), step(i, 3));
        }
        add(all, "bill", bill(0), bill(1), bill(2));
        for (int i = 0; i < has(4); i++) {
            add(all, "fails", fails(i));
        }
        all.append("latest image ").append(octets()).append('\n');
        add(all, "image", image());
        all.append(octets()).append('\n');
        lookAtTape(all);
        return all.toString();
    }

    /** A tape that is no rig shows its first bytes by its fault; one that is a rig by its names. */
    private void lookAtTape(StringBuilder all) {
        int fed = feed(0x20202020, 0x20202020, 0x20202020, 0x20202020, 0x20202020);
        add(all, "tape", fed, end(899) ? 1 : 0);
        if (fed != FlyingBars.NONE) {
            end(fed - 20);
        }
        add(all, "rig of the tape", rig(), fault(0), fault(1), has(0), has(1), has(2), letter(1, 0, 0), letter(1, 0, 1));
    }

    private static void add(StringBuilder all, String what, int... answers) {
        all.append(what);
        for (int answer : answers) {
            all.append(' ').append(answer);
        }
        all.append('\n');
    }

    int feed(int a, int b, int c, int d, int e) {
        return next().feed(a, b, c, d, e);
    }

    boolean end(int n) {
        return next().end(n);
    }

    int rig() {
        return next().rig();
    }

    int fault(int what) {
        return next().fault(what);
    }

    int has(int what) {
        return next().has(what);
    }

    int letter(int kind, int which, int k) {
        return next().letter(kind, which, k);
    }

    boolean change(int bar, int period, int phase, int reach) {
        return next().change(bar, period, phase, reach);
    }

    int where(int bar, int tick) {
        return next().where(bar, tick);
    }

    int speed(int bar, int tick) {
        return next().speed(bar, tick);
    }

    int round() {
        return next().round();
    }

    int flight(int from, int tick, int trick, int to, int done, boolean again, int what) {
        return next().flight(from, tick, trick, to, done, again, what);
    }

    int window(int from, int trick, int to, int k) {
        return next().window(from, trick, to, k);
    }

    int best(int from, int to, int n, int by) {
        return next().best(from, to, n, by);
    }

    int soonest(int from, int to, int m, int n) {
        return next().soonest(from, to, m, n);
    }

    int ways(int from, int to, int n, int by) {
        return next().ways(from, to, n, by);
    }

    int nearest(int from, int trick, int to, boolean least) {
        return next().nearest(from, trick, to, least);
    }

    int idle(int trick) {
        return next().idle(trick);
    }

    int barred(int from, int to, int n, int by, boolean trick, int which) {
        return next().barred(from, to, n, by, trick, which);
    }

    int reached(int from, int n, int by) {
        return next().reached(from, n, by);
    }

    boolean take(int board, int tick, int bar) {
        return next().take(board, tick, bar);
    }

    boolean fly(int tick, int trick, int to) {
        return next().fly(tick, trick, to);
    }

    boolean down(int tick, int board) {
        return next().down(tick, board);
    }

    int plan(int what) {
        return next().plan(what);
    }

    int step(int i, int what) {
        return next().step(i, what);
    }

    int book(int shift) {
        return next().book(shift);
    }

    int unbook() {
        return next().unbook();
    }

    int shift() {
        return next().shift();
    }

    int quarrel(int first, int second) {
        return next().quarrel(first, second);
    }

    int at(int act, int tick) {
        return next().at(act, tick);
    }

    int fails(int act) {
        return next().fails(act);
    }

    int slack(int act, int bar, boolean grows) {
        return next().slack(act, bar, grows);
    }

    int fill(int from, int to, int n, int by) {
        return next().fill(from, to, n, by);
    }

    int bill(int what) {
        return next().bill(what);
    }

    int image() {
        return next().image();
    }

    int octet(int k) {
        return next().octet(k);
    }

    boolean on() {
        return next().on();
    }
}
