/** Objects in which something of every kind is there, to see what a call leaves as it was. */
final class Scenes {
    /**
     * Bar aa: 120 110 100 90 80 90 100 110, by board ll at ticks 0, 8, 16 ..; bars bb and cc: 130 140 150 160 170 160
     * 150 140, by board rr at ticks 4, 12, 20 ... A flight of two ticks from aa to bb or cc, or back, is good at ticks 6 and 7,
     * 14 and 15, .., and misses by 10.
     */
    static final String RIG = "bar aa at 100 every 8 from 0 reach 20;bar bb at 150 every 8 from 4 reach 20;"
            + "bar cc at 150 every 8 from 4 reach 20;catcher bb;board ll at 120;board rr at 170;"
            + "trick hop ticks 2 arms 10 worth 50-miss when all;trick once ticks 2 arms 10 worth 7+done when again=0;";

    private Scenes() {
    }

    static Watched noPlan() {
        return Watched.made(RIG);
    }

    /** A plan that has not gone down, two acts on the bill, an image of one, a fault, and a rig on the tape. */
    static Watched planOpen() {
        Watched x = Watched.made(RIG);
        x.take(0, 0, 0);
        x.fly(6, 0, 1);
        x.down(12, 1);
        x.book(0);
        x.image();
        x.book(8);
        x.take(0, 8, 0);
        x.fly(14, 1, 1);
        x.rig("bar zz at 401");
        x.lay("board tt at 7;");
        return x;
    }

    static Watched planDown() {
        Watched x = planOpen();
        x.down(20, 1);
        return x;
    }

    /** Six acts; the plan has eight flights and has gone down. */
    static Watched full() {
        Watched x = Watched.made(RIG);
        x.best(0, 0, 8, 80);
        for (int i = 0; i < 6; i++) {
            x.book(8 * i);
        }
        x.lay("board tt at 7;");
        return x;
    }

    static Watched fullTape() {
        Watched x = planOpen();
        x.end(0);
        x.lay("board tt at 7;" + " ".repeat(886));
        return x;
    }
}
