/** Calls that only ask, and refused ones, on objects in which something of every kind is there: all stays as it was. */
public final class EdgeStaysTest {
    private static final Edges EDGES = new Edges();
    private static final int NONE = FlyingBars.NONE;
    private static final int[] EDGE_NUMBERS = {Integer.MIN_VALUE, -1, 0, 1, 2, 3, 8, 9, 80, 81, 400, 401, 500, 501, 1000, 1001, Integer.MAX_VALUE};

    public static void main(String[] args) {
        EDGES.of("Not promised", "Nothing is promised beyond the answers and state changes described above");
        asking("planOpen", Scenes::planOpen);
        asking("planDown", Scenes::planDown);
        asking("noPlan", Scenes::noPlan);
        asking("full", Scenes::full);
        EDGES.of("Promise 2", "NONE, doing nothing, if there would be more than 900.");
        EDGES.stays("feed onto a full tape", Scenes::fullTape, NONE, x -> x.feed(1, 2, 3, 4, 5));
        EDGES.of("Promise 3", "false, doing nothing, if it has not so many, or n is below 0.");
        EDGES.stays("end(901)", Scenes::fullTape, 0, x -> x.end(901) ? 1 : 0);
        EDGES.stays("end(-1)", Scenes::fullTape, 0, x -> x.end(-1) ? 1 : 0);
        EDGES.stays("end(900)", Scenes::fullTape, 1, x -> x.end(900) ? 1 : 0);
        EDGES.of("Promise 35", "AN IMAGE is written: how many bytes.");
        imageAlone();
        EDGES.finish();
    }

    /** Every question, with numbers at all edges, in as many runs as the calls of one object make needful. */
    private static void asking(String scene, Edges.Setup setup) {
        Watched first = setup.make();
        String before = first.look();
        int room = Watched.MOST_CALLS - first.calls();
        for (int kind = 0; kind < 23; kind++) {
            Watched x = setup.make();
            int made = x.calls();
            for (int a : EDGE_NUMBERS) {
                for (int b = 0; b < 2; b++) {
                    if (x.calls() - made + 6 > room) {
                        EDGES.due("what is there behind question " + kind + " on " + scene, x.look(), before);
                        x = setup.make();
                    }
                    ask(x, kind, a, b);
                    ask(x, kind, b, a);
                }
            }
            EDGES.due("what is there behind question " + kind + " on " + scene, x.look(), before);
        }
    }

    private static int ask(Watched x, int kind, int a, int b) {
        return switch (kind) {
            case 0 -> x.fault(a);
            case 1 -> x.has(a);
            case 2 -> x.letter(a, b, 0);
            case 3 -> x.where(a, b);
            case 4 -> x.speed(a, b);
            case 5 -> x.round();
            case 6 -> x.flight(0, a, b, 1, 8, true, 1);
            case 7 -> x.window(0, a, 1, b);
            case 8 -> x.soonest(0, 1, a, b);
            case 9 -> x.ways(0, 1, a, b);
            case 10 -> x.nearest(a, 0, b, true);
            case 11 -> x.idle(a);
            case 12 -> x.barred(0, 1, 8, a, false, b);
            case 13 -> x.barred(0, 1, a, 80, true, b);
            case 14 -> x.reached(0, a, b);
            case 15 -> x.plan(a);
            case 16 -> x.step(a, b);
            case 17 -> x.shift();
            case 18 -> x.quarrel(a, b);
            case 19 -> x.at(a, b);
            case 20 -> x.fails(a);
            case 21 -> x.slack(a, b, true) + x.slack(a, b, false);
            default -> x.bill(a) + x.octet(a);
        };
    }

    /** All but the latest image is as it was. */
    private static void imageAlone() {
        Watched x = Scenes.planOpen();
        String old = x.octets();
        EDGES.due("image", x.image(), 28);
        EDGES.due("the latest one was of one act", old.startsWith("1 "), true);
        EDGES.due("this one is of two", x.octets().startsWith("2 "), true);
        Watched y = Scenes.planOpen();
        y.image();
        y.image();
        EDGES.due("written twice", y.look(), x.look());
    }
}
