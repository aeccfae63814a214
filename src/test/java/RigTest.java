/** Promises 1 to 7: a new object, feed, end, rig, fault, has, letter; and what sums and tests mean. */
public final class RigTest {
    private static final Checks CHECKS = new Checks();
    private static final String BAR = "bar a at 1 every 8 from 0 reach 5;";
    private static final String TRICK = "trick k ticks 2 arms 4 worth ";
    private static final String STILL = "bar a at 9 every 4 from 0 reach 0;bar b at 9 every 4 from 0 reach 0;";

    public static void main(String[] args) {
        tape();
        words();
        numbers();
        sums();
        tests();
        names();
        nesting();
        limits();
        fullTape();
        whatStays();
        letters();
        sumsMean();
        testsMean();
        factsMean();
        CHECKS.finish();
    }

    /** The fault is due where the text has its mark ^ (it is taken out). */
    private static void faulty(int fault, String marked) {
        int place = marked.indexOf('^');
        String text = marked.substring(0, place) + marked.substring(place + 1);
        Watched x = new Watched();
        CHECKS.due("rig of " + marked, x.rig(text), FlyingBars.NONE);
        CHECKS.due("fault(0) of " + marked, x.fault(0), fault);
        CHECKS.due("fault(1) of " + marked, x.fault(1), place);
        CHECKS.due("bars of " + marked, x.has(0), 0);
    }

    private static void well(String text, int statements) {
        Watched x = new Watched();
        CHECKS.due("rig of " + text, x.rig(text), statements);
        CHECKS.due("fault(0) of " + text, x.fault(0), 0);
        CHECKS.due("fault(1) of " + text, x.fault(1), FlyingBars.NONE);
    }

    private static void tape() {
        Watched x = new Watched();
        CHECKS.due("fault(0) ahead of any", x.fault(0), 0);
        CHECKS.due("fault(1) ahead of any", x.fault(1), FlyingBars.NONE);
        CHECKS.due("fault(2)", x.fault(2), FlyingBars.NONE);
        CHECKS.due("fault(-1)", x.fault(-1), FlyingBars.NONE);
        CHECKS.due("end(0)", x.end(0), true);
        CHECKS.due("end(1)", x.end(1), false);
        CHECKS.due("end(-1)", x.end(-1), false);
        for (int i = 1; i <= 45; i++) {
            CHECKS.due("feed", x.feed(0x20202020, 0x20202020, 0x20202020, 0x20202020, 0x20202020), 20 * i);
        }
        CHECKS.due("feed beyond 900", x.feed(0, 0, 0, 0, 0), FlyingBars.NONE);
        CHECKS.due("end(901)", x.end(901), false);
        CHECKS.due("end(900)", x.end(900), true);
        CHECKS.due("end(881)", x.end(881), true);
        CHECKS.due("feed beyond 900 by one", x.feed(0, 0, 0, 0, 0), FlyingBars.NONE);
        CHECKS.due("end(880)", x.end(880), true);
        CHECKS.due("feed to 900", x.feed(0x20202020, 0x20202020, 0x20202020, 0x20202020, 0x20202078), 900);
        CHECKS.due("rig", x.rig(), FlyingBars.NONE);
        CHECKS.due("place", x.fault(1), 899);
        CHECKS.due("the tape went", x.end(1), false);
        CHECKS.due("feed", x.feed(0x62617220, 0x61206174, 0x20FF2020, 0x20202020, 0x20202020), 20);
        CHECKS.due("rig", x.rig(), FlyingBars.NONE);
        CHECKS.due("a high byte", x.fault(0) * 100 + x.fault(1), 109);
        CHECKS.due("has(-1)", x.has(-1), FlyingBars.NONE);
        CHECKS.due("has(6)", x.has(6), FlyingBars.NONE);
    }

    private static void words() {
        well("", 0);
        well(" \n ", 0);
        well("bar a at 1 every 8 from 0 reach 5 ;\nboard\nb\nat\n7;catcher a;", 3);
        faulty(1, "^x;");
        faulty(1, "^;");
        faulty(1, BAR + "^;");
        faulty(1, "^5;");
        faulty(1, "^ba");
        faulty(1, "^bars a at 1");
        faulty(1, "^BAR a");
        faulty(1, "^\tbar a");
        faulty(1, "bar^");
        faulty(1, "bar \n^");
        faulty(1, "bar ^bar");
        faulty(1, "bar ^catcher at 5");
        faulty(1, "bar catche^rs at 5");
        faulty(1, "bar abcdef^g");
        faulty(1, "bar abcdef^ghijk at 5");
        faulty(1, "bar ^A at 5");
        faulty(1, "bar a^B at 5");
        faulty(1, "bar ^7 at 5");
        faulty(1, "bar a^7 at 5");
        faulty(1, "bar a^;");
        faulty(1, "bar a ^ata 5");
        faulty(1, "bar a ^every 5");
        faulty(1, "bar a at^5 every 8");
        faulty(1, "bar a at 5^every 8");
        faulty(1, "bar a at 5 every 8 from 0 reach 5^");
        faulty(1, "bar a at 5 every 8 from 0 reach 5 ^bar");
        faulty(1, "bar a at 5 every 8 from 0 reach 5 ^,");
        faulty(1, "bar^@a at 5");
        faulty(1, "board b at 5 ^every");
        faulty(1, "catcher ^bar;");
        faulty(1, "catcher ^5;");
        faulty(1, "catcher abcdef^g;");
        faulty(1, BAR + "catcher a ^at 5");
    }

    private static void numbers() {
        well("bar a at 0 every 4 from 0 reach 0;", 1);
        well("bar a at 0400 every 0040 from 0039 reach 0060;", 1);
        well("board a at 400;board b at 0;", 2);
        well("trick a ticks 1 arms 0 worth 0 when all;trick b ticks 20 arms 40 worth 9999 when all;", 2);
        faulty(1, "bar a at ^x");
        faulty(1, "bar a at ^abcdefgh");
        faulty(1, "bar a at ^-5");
        faulty(1, "bar a at ^");
        faulty(1, "bar a at 1234^5");
        faulty(1, "bar a at 0000^001");
        faulty(2, "bar a at ^401every");
        faulty(2, "bar a at ^9999");
        faulty(2, "bar a at 1 every ^3");
        faulty(2, "bar a at 1 every ^41 from");
        faulty(2, "bar a at 1 every 4 from ^40;");
        faulty(2, "bar a at 1 every 4 from 39 reach ^61;");
        faulty(2, "board a at ^401;");
        faulty(2, "trick a ticks ^0");
        faulty(2, "trick a ticks ^21");
        faulty(2, "trick a ticks 1 arms ^41");
    }

    private static void sums() {
        faulty(1, TRICK + "^;");
        faulty(1, TRICK + "^cow when all;");
        faulty(1, TRICK + "^abcdefgh when all;");
        faulty(1, TRICK + "^not");
        faulty(1, TRICK + "^- 5");
        faulty(1, TRICK + "5 ^;");
        faulty(1, TRICK + "5 ^6");
        faulty(1, TRICK + "5^when all;");
        faulty(1, TRICK + "1234^5 when all;");
        faulty(1, TRICK + "5 + ^;");
        faulty(1, TRICK + "5 * ^+ 5");
        faulty(1, TRICK + "miss ^swing");
        faulty(1, TRICK + "miss^5");
        faulty(1, TRICK + "(5 ^;");
        faulty(1, TRICK + "(^)");
        faulty(1, TRICK + "5^)");
        faulty(1, TRICK + "^[5] when all;");
        faulty(1, TRICK + "min ^5");
        faulty(1, TRICK + "min(5^)");
        faulty(1, TRICK + "max(5,6^,7)");
        faulty(1, TRICK + "min(5,6^");
        well(TRICK + "min(1,max(2,(3)))*miss/swing+gap-tick*thrown+caught/done-again when all;", 1);
    }

    private static void tests() {
        String trick = TRICK + "5 when ";
        faulty(1, trick + "^;");
        faulty(1, trick + "^and all;");
        faulty(1, trick + "5 ^;");
        faulty(1, trick + "5 <^= 5;");
        faulty(1, trick + "5 < 5 ^< 5;");
        faulty(1, trick + "(5 ^< 5) < 6;");
        faulty(1, trick + "[5 < 5 ^;");
        faulty(1, trick + "5 < 5 ^];");
        faulty(1, trick + "all ^not all;");
        faulty(1, trick + "all ^all;");
        faulty(1, trick + "all ^< 5;");
        faulty(1, trick + "not^5 < 6;");
        faulty(1, trick + "all or ^;");
        faulty(1, trick + "1 < 5^or all;");
        faulty(1, trick + "all^");
        faulty(1, trick + "not ^");
        faulty(1, trick + "all ^when");
        well(trick + "not[all or not 1<2 and 3=4]or 5>6;", 1);
    }

    private static void names() {
        faulty(3, BAR + "bar ^a at 5");
        faulty(3, BAR + "board ^a at 5");
        faulty(3, BAR + "trick ^a ticks 5");
        faulty(3, "board b at 5;bar ^b");
        faulty(3, TRICK + "5 when all;board ^k");
        faulty(3, "catcher ^a;" + BAR);
        faulty(3, BAR + "catcher ^b;");
        faulty(3, BAR + "board p at 5;catcher ^p;");
        faulty(3, BAR + "catcher ^aa;");
        well(BAR + "bar aa at 1 every 8 from 0 reach 5;bar abcdef at 1 every 8 from 0 reach 5;catcher aa;", 4);
        Watched x = Watched.made(BAR + "bar b at 1 every 8 from 0 reach 5;catcher b;catcher a;");
        CHECKS.due("catchers", x.has(3), 2);
    }

    private static void nesting() {
        well(TRICK + "((((((1)))))) when all;", 1);
        well(TRICK + "(1)+(1)+(1)+(1)+(1)+(1)+(1)+(1) when all;", 1);
        faulty(4, TRICK + "((((((^(1))))))) when all;");
        faulty(4, TRICK + "min(1,(max((((^(1");
        well(TRICK + "min(1,min(1,min(1,min(1,min(1,min(1,2)))))) when all;", 1);
        faulty(4, TRICK + "min(1,min(1,min(1,min(1,min(1,min(1,min^(1,2))))))) when all;");
        String trick = TRICK + "5 when ";
        well(trick + "not not not not not not all;", 1);
        faulty(4, trick + "not not not not not not ^not all;");
        well(trick + "not all and not all and not all and not all and not all and not all and not all;", 1);
        well(trick + "[[[[[[all]]]]]];", 1);
        faulty(4, trick + "[[[[[[^[all]]]]]]];");
        well(trick + "not [not [not (1) < (2)]] and [[[[[[all]]]]]];", 1);
        faulty(4, trick + "not [not [not (^(1");
        faulty(4, trick + "not [not [not 1 < (2) + (^(1");
        faulty(1, trick + "not not not not not not ^and;");
    }

    private static void limits() {
        StringBuilder text = new StringBuilder();
        for (int i = 0; i < 8; i++) {
            text.append("bar ").append((char) ('a' + i)).append(" at 1 every 8 from 0 reach 5;");
        }
        well(text.toString(), 8);
        faulty(5, text + "^bar z");
        faulty(5, text + "^bar;");
        text.append("board i at 1;board j at 1;board k at 1;board l at 1;");
        well(text.toString(), 12);
        faulty(5, text + " ^board z at 1;");
        StringBuilder tricks = new StringBuilder();
        for (int i = 0; i < 8; i++) {
            tricks.append("trick t").append((char) ('a' + i)).append(" ticks 1 arms 1 worth 1 when all;");
        }
        well(text.toString() + tricks, 20);
        faulty(5, tricks + "^trick z ticks 1 arms 1 worth 1 when all;");
        for (int i = 0; i < 18; i++) {
            text.append("catcher a;");
        }
        well(text.toString(), 30);
        well(text + " \n ", 30);
        faulty(5, text + " ^catcher a;");
        faulty(5, text + "^;");
        faulty(5, text + "^!");
        faulty(5, text + "^whatever");
        Watched x = Watched.made("board i at 1;board j at 1;board k at 1;board l at 1;" + tricks);
        CHECKS.due("boards", x.has(1), 4);
        CHECKS.due("tricks", x.has(2), 8);
    }

    /** Texts of 900 bytes whose last ones are a word, a number, a sign. */
    private static void fullTape() {
        well(" ".repeat(900 - BAR.length()) + BAR, 1);
        faulty(1, " ".repeat(900 - 15) + "bar a at 5 ^ever");
        faulty(1, " ".repeat(900 - 9) + "bar a at ^");
        faulty(1, " ".repeat(900 - 10) + "bar a at 5^");
        faulty(2, " ".repeat(900 - 12) + "bar a at ^999");
        faulty(1, " ".repeat(900 - 5) + "bar a^");
        StringBuilder sum = new StringBuilder("1");
        while (TRICK.length() + sum.length() + 2 < 880) {
            sum.append("+1");
        }
        well(TRICK + sum + " when all;", 1);
        Watched x = Watched.made("bar a at 9 every 4 from 0 reach 0;bar b at 9 every 4 from 0 reach 0;"
                + "trick k ticks 1 arms 1 worth 1" + "+1".repeat(390) + " when all;");
        CHECKS.due("a long sum", x.flight(0, 0, 0, 1, 0, false, 2), 391);
    }

    private static void whatStays() {
        Watched x = Watched.made(STILL + "board p at 9;trick k ticks 1 arms 1 worth 1 when all;");
        CHECKS.due("take", x.take(0, 0, 0), true);
        CHECKS.due("down", x.down(3, 0), true);
        CHECKS.due("book", x.book(2), 1);
        CHECKS.due("rig", x.rig("bar a"), FlyingBars.NONE);
        CHECKS.due("bars stay", x.has(0), 2);
        CHECKS.due("the plan stays", x.plan(3), 3);
        CHECKS.due("the bill stays", x.has(4), 1);
        CHECKS.due("rig", x.rig(BAR), 1);
        CHECKS.due("fault(0)", x.fault(0), 0);
        CHECKS.due("fault(1)", x.fault(1), FlyingBars.NONE);
        CHECKS.due("bars", x.has(0), 1);
        CHECKS.due("boards", x.has(1), 0);
        CHECKS.due("tricks", x.has(2), 0);
        CHECKS.due("no plan", x.plan(3), FlyingBars.NONE);
        CHECKS.due("an empty bill", x.has(4), 0);
        CHECKS.due("rig", x.rig("bar b at 7 every 9 from 3 reach 3;catcher b;bar"), FlyingBars.NONE);
        CHECKS.due("where", x.where(0, 0), 6);
        CHECKS.due("catchers stay", x.has(3), 0);
        CHECKS.due("rig", x.rig(BAR + "catcher a;"), 2);
        CHECKS.due("catchers", x.has(3), 1);
        CHECKS.due("rig", x.rig(BAR), 1);
        CHECKS.due("no catchers", x.has(3), 0);
    }

    private static void letters() {
        Watched x = Watched.made(BAR + "board zyxabc at 9;trick mn ticks 1 arms 1 worth 1 when all;");
        int[] zyxabc = {26, 25, 24, 1, 2, 3};
        for (int k = 0; k < 6; k++) {
            CHECKS.due("board letter " + k, x.letter(1, 0, k), zyxabc[k]);
            CHECKS.due("bar letter " + k, x.letter(0, 0, k), k == 0 ? 1 : 0);
            CHECKS.due("trick letter " + k, x.letter(2, 0, k), k == 0 ? 13 : k == 1 ? 14 : 0);
        }
        int[][] wrong = {{0, 1, 0}, {0, -1, 0}, {1, 1, 0}, {2, 1, 0}, {3, 0, 0}, {-1, 0, 0}, {0, 0, 6}, {0, 0, -1}};
        for (int[] w : wrong) {
            CHECKS.due("letter", x.letter(w[0], w[1], w[2]), FlyingBars.NONE);
        }
    }

    private static void worth(String sum, int want) {
        Watched x = Watched.made(STILL + "trick k ticks 1 arms 1 worth " + sum + " when all;");
        CHECKS.due("worth " + sum, x.flight(0, 0, 0, 1, 0, false, 2), want);
    }

    private static void sumsMean() {
        worth("1+2*3", 7);
        worth("(1+2)*3", 9);
        worth("10-2-3", 5);
        worth("10-(2-3)", 11);
        worth("20/3/2", 3);
        worth("100/7*7", 98);
        worth("2*3+4*5-6/2", 23);
        worth("7/(0-2)+10", 6);
        worth("(0-7)/2+10", 6);
        worth("(0-7)/(0-2)", 3);
        worth("5/0+1", 1);
        worth("(0-5)/0+1", 1);
        worth("min(3,8)*10+max(3,8)", 38);
        worth("min(8,3)*10+max(8,3)", 38);
        worth("9999*9999-9999*100", 100);
        worth("9999*100+9999*100-9999*100", 100);
        worth("0-9999*9999+9999*100+500", 400);
        worth("0-9999*100-9999*100+9999*100+500", 400);
        worth("(0-9999)*9999+9999*100+500", 400);
        worth("1000", 1000);
        worth("1001", 1000);
        worth("0-1", 0);
        worth("0007", 7);
    }

    private static void holds(String test, boolean want) {
        Watched x = Watched.made(STILL + "trick k ticks 1 arms 1 worth 1 when " + test + ";");
        CHECKS.due("when " + test, x.flight(0, 0, 0, 1, 0, false, 1), want ? 1 : 0);
    }

    private static void testsMean() {
        holds("all", true);
        holds("not all", false);
        holds("not not all", true);
        holds("1<2", true);
        holds("2<2", false);
        holds("2>1", true);
        holds("2>2", false);
        holds("2=2", true);
        holds("2=1", false);
        holds("1+1=4/2", true);
        holds("not 1<2", false);
        holds("all and 1>2 or all", true);
        holds("all or all and 1>2", true);
        holds("[all or all] and 1>2", false);
        holds("not all or all", true);
        holds("not [all or all]", false);
        holds("not 1>2 and 1>2", false);
        holds("1>2 and all or 1>2", false);
    }

    private static void fact(String fact, int tick, int done, boolean again, int want) {
        String bars = "bar a at 100 every 8 from 0 reach 20;bar b at 130 every 8 from 0 reach 0;bar c at 130 every 8 from 0 reach 0;";
        Watched x = Watched.made(bars + "catcher b;trick k ticks 3 arms 40 worth " + fact + " when all;");
        CHECKS.due(fact, x.flight(0, tick, 0, 1, done, again, 2), want);
    }

    private static void factsMean() {
        // At tick 5 the bar is at 90 and goes by 10 a tick: three ticks later the flyer is at 120.
        fact("miss", 5, 0, false, 10);
        fact("swing", 5, 0, false, 10);
        fact("swing", 1, 0, false, 10);
        fact("gap", 5, 0, false, 40);
        fact("tick", 5, 0, false, 5);
        fact("tick", 999, 0, false, 999);
        fact("thrown", 5, 0, false, 0);
        fact("caught", 5, 0, false, 1);
        fact("done", 5, 8, false, 8);
        fact("again", 5, 0, true, 1);
        fact("again", 5, 3, false, 0);
        Watched x = Watched.made(STILL + "catcher a;trick k ticks 1 arms 1 worth 10*thrown+caught when all;");
        CHECKS.due("thrown", x.flight(0, 0, 0, 1, 0, false, 2), 10);
        CHECKS.due("caught", x.flight(1, 0, 0, 0, 0, false, 2), 1);
    }
}
