/** The boundary cases of sums and tests (Terms I) and of a flight's facts, goodness and worth (Terms II), by promise 12. */
public final class EdgeSumTest {
    private static final Edges EDGES = new Edges();
    private static final String STILL = "bar a at 9 every 4 from 0 reach 0;bar b at 9 every 4 from 0 reach 0;";
    /** 10 to the 6, one less and one more, told by numbers of four digits. */
    private static final String MILLION = "(1000*1000)";
    private static final String ONE_LESS = "(1000*999+999)";
    private static final String MINUS_MILLION = "(0-1000*1000)";
    private static final String ONE_ABOVE = "(0-1000*999-999)";

    public static void main(String[] args) {
        sumsAbove();
        differencesBelow();
        productsBeyond();
        quotients();
        byNothing();
        fromTheLeft();
        leastAndGreatest();
        signs();
        bothAndOr();
        facts();
        arms();
        worths();
        EDGES.finish();
    }

    /** Sums as tests show values that a worth, 0 .. 1000, can't. */
    private static void equal(String sum, String value) {
        Watched x = Watched.made(STILL + "trick k ticks 1 arms 1 worth 1 when " + sum + "=" + value + ";"
                + "trick j ticks 1 arms 1 worth 1 when " + sum + ">" + value + ";"
                + "trick i ticks 1 arms 1 worth 1 when " + sum + "<" + value + ";");
        EDGES.row(sum + " beside " + value, new int[] {x.flight(0, 0, 0, 1, 0, false, 1), x.flight(0, 0, 1, 1, 0, false, 1),
            x.flight(0, 0, 2, 1, 0, false, 1)}, 1, 0, 0);
    }

    private static void worth(String sum, int want) {
        Watched x = Watched.made(STILL + "trick k ticks 1 arms 1 worth " + sum + " when all;");
        EDGES.due("worth " + sum, x.flight(0, 0, 0, 1, 0, false, 2), want);
    }

    private static void holds(String test, boolean want) {
        Watched x = Watched.made(STILL + "trick k ticks 1 arms 1 worth 1 when " + test + ";");
        EDGES.due("when " + test, x.flight(0, 0, 0, 1, 0, false, 1), want ? 1 : 0);
    }

    private static void sumsAbove() {
        EDGES.of("Terms I", "each sum, difference, product above 10 to the 6 is that");
        equal(ONE_LESS + "+0-999*1000", "999");
        equal(ONE_LESS + "+1-999*1000", "1000");
        equal(ONE_LESS + "+2-999*1000", "1000");
        equal(ONE_LESS + "+9999-999*1000", "1000");
        equal(MILLION + "+0-" + ONE_LESS, "1");
        equal(MILLION + "+1-" + ONE_LESS, "1");
        equal(MILLION + "+1-1", ONE_LESS);
        equal(MILLION + "-1+1", MILLION);
        equal(ONE_LESS + "-(0-1)", MILLION);
        equal(ONE_LESS + "-(0-2)", MILLION);
        equal(MILLION + "+" + MILLION + "-" + MILLION, "0");
        equal(MILLION + "-" + MINUS_MILLION, MILLION);
    }

    private static void differencesBelow() {
        EDGES.of("Terms I", "below -10 to the 6 likewise");
        equal(ONE_ABOVE + "-0+999*1000", "0-999");
        equal(ONE_ABOVE + "-1+999*1000", "0-1000");
        equal(ONE_ABOVE + "-2+999*1000", "0-1000");
        equal(MINUS_MILLION + "-1+1", ONE_ABOVE);
        equal(MINUS_MILLION + "+1-1", MINUS_MILLION);
        equal(MINUS_MILLION + "-" + MILLION, MINUS_MILLION);
        equal(MINUS_MILLION + "+" + MINUS_MILLION, MINUS_MILLION);
        equal(MINUS_MILLION + "+" + MINUS_MILLION + "+" + MILLION, "0");
    }

    private static void productsBeyond() {
        EDGES.of("Terms I", "each sum, difference, product above 10 to the 6 is that, below -10 to the 6 likewise");
        equal("1000*1000-1", ONE_LESS);
        equal("1001*999", ONE_LESS);
        equal("1001*1000", MILLION);
        equal("1001*1000-1", ONE_LESS);
        equal("9999*9999", MILLION);
        equal("9999*9999*9999/1000", "1000");
        equal("(0-1001)*999", ONE_ABOVE);
        equal("(0-1001)*1000", MINUS_MILLION);
        equal("1000*(0-1001)+1", ONE_ABOVE);
        equal("(0-9999)*9999", MINUS_MILLION);
        equal("(0-9999)*(0-9999)", MILLION);
        equal(MILLION + "*" + MILLION, MILLION);
        equal(MILLION + "*" + MINUS_MILLION, MINUS_MILLION);
        equal(MINUS_MILLION + "*" + MINUS_MILLION, MILLION);
    }

    private static void quotients() {
        EDGES.of("Terms I", "/ gives the greatest whole number not above");
        int[][] cases = {{7, 2, 3}, {6, 2, 3}, {5, 2, 2}, {-7, 2, -4}, {-6, 2, -3}, {-5, 2, -3}, {7, -2, -4}, {6, -2, -3},
            {5, -2, -3}, {-7, -2, 3}, {-6, -2, 3}, {-5, -2, 2}, {0, 5, 0}, {0, -5, 0}, {1, 5, 0}, {-1, 5, -1}, {4, 5, 0},
            {5, 5, 1}, {-5, 5, -1}, {-6, 5, -2}, {1, -5, -1}, {-1, -5, 0}};
        for (int[] one : cases) {
            equal(told(one[0]) + "/" + told(one[1]), told(one[2]));
        }
        equal(MINUS_MILLION + "/(0-1)", MILLION);
        equal(MILLION + "/(0-1)", MINUS_MILLION);
        equal(MILLION + "/3", "(333*1000+333)");
        equal(MINUS_MILLION + "/3", "(0-333*1000-334)");
        equal("1/" + MINUS_MILLION, "(0-1)");
    }

    private static String told(int number) {
        return number < 0 ? "(0-" + -number + ")" : "" + number;
    }

    private static void byNothing() {
        EDGES.of("Terms I", "by 0 it gives 0");
        equal("7/0", "0");
        equal("0/0", "0");
        equal("(0-7)/0", "0");
        equal(MILLION + "/0", "0");
        equal("7/(1-1)+3", "3");
        equal("7/1", "7");
        equal("7/(0-1)", "(0-7)");
        equal("5/0/0*9+1", "1");
        equal("5/(5/0)+1", "1");
    }

    private static void fromTheLeft() {
        EDGES.of("Terms I", "All from the left on");
        equal("10-3-2", "5");
        equal("10-3+2", "9");
        equal("100/7*7", "98");
        equal("7*100/7", "100");
        equal("100/10/5", "2");
        equal("2+3*4", "14");
        equal("2*3+4", "10");
        equal("20-2*3-4/2", "12");
        equal("(2+3)*4", "20");
        equal("20-(2-3)", "21");
        equal("1000*1000+1-1", ONE_LESS);
        equal("1-1+1000*1000", MILLION);
    }

    private static void leastAndGreatest() {
        EDGES.of("Terms I", "min ( SUM , SUM ) ; max ( SUM , SUM )");
        equal("min(3,4)", "3");
        equal("min(4,3)", "3");
        equal("min(4,4)", "4");
        equal("max(3,4)", "4");
        equal("max(4,3)", "4");
        equal("max(4,4)", "4");
        equal("min(0-1,0)", "(0-1)");
        equal("max(0-1,0)", "0");
        equal("max(" + MINUS_MILLION + "," + MILLION + ")", MILLION);
        equal("min(1+1,9)-max(7,2*3)", "(0-5)");
    }

    private static void signs() {
        EDGES.of("Terms I", "SUM SIGN SUM, SIGN < or > or =");
        for (int a = 4; a <= 6; a++) {
            holds(a + "<5", a < 5);
            holds(a + ">5", a > 5);
            holds(a + "=5", a == 5);
        }
        holds("0-1<0", true);
        holds("0>0-1", true);
        holds("0-1=1", false);
    }

    private static void bothAndOr() {
        EDGES.of("Terms I", "TEST: BOTH { or BOTH }. BOTH: FACT { and FACT }. FACT: not FACT; [ TEST ] ; all");
        String[] values = {"1>2", "all"};
        for (int bits = 0; bits < 8; bits++) {
            boolean a = (bits & 1) != 0;
            boolean b = (bits & 2) != 0;
            boolean c = (bits & 4) != 0;
            String x = values[bits & 1];
            String y = values[bits >> 1 & 1];
            String z = values[bits >> 2 & 1];
            holds(x + " or " + y + " and " + z, a || b && c);
            holds(x + " and " + y + " or " + z, a && b || c);
            holds("[" + x + " or " + y + "] and " + z, (a || b) && c);
            holds("not " + x + " or " + y + " and not " + z, !a || b && !c);
            holds("not " + x + " and " + y + " and " + z, !a && b && c);
            holds("not [" + x + " or " + y + " or " + z + "]", !(a || b || c));
            holds("not not " + x, a);
        }
    }

    /** Bar a at 100 swings by 8 and 20: 120 110 100 90 80 90 100 110; bars b and c stand at 130 and 70. */
    private static final String SWING = "bar a at 100 every 8 from 0 reach 20;bar b at 130 every 8 from 0 reach 0;"
            + "bar c at 70 every 8 from 0 reach 0;catcher b;";

    private static void fact(String fact, int from, int tick, int to, int done, boolean again, int want) {
        Watched x = Watched.made(SWING + "trick k ticks 3 arms 40 worth " + fact + " when all;");
        EDGES.due(fact + " from " + from + " at " + tick + " to " + to, x.flight(from, tick, 0, to, done, again, 2), want);
    }

    private static void facts() {
        EDGES.of("Terms II", "MISS: how far from the other BAR it would be then");
        fact("miss", 0, 5, 1, 0, false, 10);
        fact("miss", 0, 6, 1, 0, false, 0);
        fact("miss", 0, 7, 1, 0, false, 10);
        fact("miss", 0, 2, 2, 0, false, 0);
        fact("miss", 0, 1, 2, 0, false, 10);
        fact("miss", 0, 3, 2, 0, false, 10);
        EDGES.of("Terms II", "swing: SPEED at t without its sign");
        fact("swing", 0, 3, 1, 0, false, 10);
        fact("swing", 0, 4, 1, 0, false, 10);
        fact("swing", 1, 4, 0, 0, false, 0);
        EDGES.of("Terms II", "gap: how far the one BAR at t and the other one at t + TICKS are apart");
        fact("gap", 0, 4, 1, 0, false, 50);
        fact("gap", 0, 0, 1, 0, false, 10);
        fact("gap", 0, 0, 2, 0, false, 50);
        // Three ticks behind 1 bar a is at 80, behind 5 at 120.
        fact("gap", 1, 1, 0, 0, false, 50);
        fact("gap", 1, 5, 0, 0, false, 10);
        EDGES.of("Terms II", "tick: t");
        fact("tick", 0, 0, 1, 0, false, 0);
        fact("tick", 0, 1, 1, 0, false, 1);
        fact("tick", 0, 999, 1, 0, false, 999);
        fact("tick-1", 0, 1000, 1, 0, false, 999);
        EDGES.of("Terms II", "thrown: 1, if there is a CATCHER on the BAR from which it goes, caught: to which it goes, else 0");
        fact("10*thrown+caught", 0, 0, 1, 0, false, 1);
        fact("10*thrown+caught", 1, 0, 0, 0, false, 10);
        fact("10*thrown+caught", 0, 0, 2, 0, false, 0);
        Watched x = Watched.made(SWING + "catcher a;catcher b;trick k ticks 3 arms 40 worth 10*thrown+caught when all;");
        EDGES.due("from a catcher to a catcher", x.flight(0, 0, 0, 1, 0, false, 2), 11);
        EDGES.of("Terms II", "done: how many FLIGHTS the flyer had in this ACT ahead of it; again: 1, if the one just ahead was by the same TRICK, else 0");
        for (int done = 0; done <= 8; done++) {
            fact("10*done+again", 0, 0, 1, done, false, 10 * done);
            fact("10*done+again", 0, 0, 1, done, true, 10 * done + 1);
        }
    }

    private static void arms() {
        EDGES.of("Terms II", "It is GOOD, if MISS is not above ARMS, and its TEST holds.");
        for (int arms = 0; arms <= 40; arms++) {
            for (int apart = Math.max(0, arms - 1); apart <= arms + 1; apart++) {
                Watched x = Watched.made("bar a at 100 every 4 from 0 reach 0;bar b at " + (100 + apart)
                        + " every 4 from 0 reach 0;bar c at " + (100 - apart) + " every 4 from 0 reach 0;"
                        + "trick k ticks 2 arms " + arms + " worth 1 when all;trick j ticks 2 arms " + arms + " worth 1 when not all;");
                EDGES.row("arms " + arms + ", " + apart + " apart", new int[] {x.flight(0, 0, 0, 1, 0, false, 0),
                    x.flight(0, 0, 0, 1, 0, false, 1), x.flight(0, 0, 0, 2, 0, false, 0), x.flight(0, 0, 0, 2, 0, false, 1),
                    x.flight(0, 0, 1, 1, 0, false, 1)}, apart, apart <= arms ? 1 : 0, apart, apart <= arms ? 1 : 0, 0);
            }
        }
    }

    private static void worths() {
        EDGES.of("Terms II", "Its WORTH: its SUM, 0 .. 1000 (below is 0, above 1000).");
        worth("0-1000*1000", 0);
        worth("0-2", 0);
        worth("0-1", 0);
        worth("0", 0);
        worth("1", 1);
        worth("999", 999);
        worth("1000", 1000);
        worth("1001", 1000);
        worth("9999", 1000);
        worth("1000*1000", 1000);
        Watched x = Watched.made(STILL + "trick k ticks 1 arms 1 worth 1001*done-1 when not all;");
        EDGES.row("the worth of what is not good", new int[] {x.flight(0, 0, 0, 1, 0, false, 2), x.flight(0, 0, 0, 1, 1, false, 2)}, 0, 1000);
    }
}
