import java.util.ArrayList;
import java.util.List;
import java.util.Random;

/** Promises 4 to 7 on texts changed at random, against a reader made in another way from Terms I. */
public final class AnyTextTest {
    private static final Checks CHECKS = new Checks();
    private static final String SIGNS = ";;()[]<>=+-*/,  \n\n!A\t";
    private static final String[] PIECES = {"(", "[", "not ", "min(", "min", "max (1,", ")", "]", " or all", " and all", "all",
        "1<2", "((", "not not ", "catcher", "catchers", "abcdefg", "abcdef", "12345", "9999", "400", "401", "40", "41", "39",
        "60", "61", "20", "21", "0", "3", "4", ";", "bar ", "board ", "trick ", "catcher a;", "board z at 0;",
        "trick z ticks 1 arms 0 worth 1 when all;", "bar z at 0 every 4 from 0 reach 0;", "miss", "swing", "tick", "ticks"};
    private static final int[] SEEN = new int[6];

    public static void main(String[] args) {
        Random random = new Random(7);
        for (int i = 0; i < 24000; i += 9) {
            Watched x = new Watched();
            for (int k = 0; k < 9; k++) {
                String text = anyText(random);
                compare(x, text.substring(0, Math.min(text.length(), 900)));
            }
        }
        for (int fault = 0; fault <= 5; fault++) {
            CHECKS.due("fault " + fault + " was there often (" + SEEN[fault] + ")", SEEN[fault] > 100, true);
        }
        CHECKS.finish();
    }

    private static String anyText(Random random) {
        String text = random.nextInt(3) > 0 ? told(random) : new Model(random.nextInt(3000), 5, 4).text;
        for (int changes = random.nextInt(4); changes > 0; changes--) {
            text = changed(text, random);
        }
        return text;
    }

    private static String told(Random random) {
        StringBuilder text = new StringBuilder();
        int count = random.nextInt(5) == 0 ? 27 + random.nextInt(5) : random.nextInt(13);
        int most = count > 20 ? 6 : 4;
        for (int i = 0; i < count; i++) {
            String name = "" + (char) ('a' + random.nextInt(20)) + (char) ('a' + i % 26);
            switch (random.nextInt(most)) {
                case 0 -> text.append("bar ").append(name).append(" at 9 every 8 from 3 reach 5;");
                case 1 -> text.append(random.nextBoolean() ? "board " + name + " at 9;" : "trick " + name + worth(random));
                case 2 -> text.append("trick ").append(name).append(worth(random));
                default -> text.append(text.indexOf("bar") == 0 ? "catcher " + text.substring(4, 6) + ";" : "bar a at 1 every 4 from 0 reach 0;");
            }
        }
        return text.toString();
    }

    private static String worth(Random random) {
        String[] sums = {"1", "miss", "(gap)", "((((((1))))))", "min(1,(max(2,((3)))))", "1+2*3", "1", "gap"};
        String[] tests = {"all", "not all", "[1<2]", "not not not 1=2", "not [not [not [not all]]]", "[[[[[[all]]]]]]", "not [not [not [all]]]"};
        return " ticks 1 arms 0 worth " + sums[random.nextInt(sums.length)] + " when " + tests[random.nextInt(tests.length)] + ";";
    }

    private static String changed(String text, Random random) {
        int at = random.nextInt(text.length() + 1);
        int to = Math.min(text.length(), at + 1 + random.nextInt(3));
        String head = text.substring(0, at);
        String tail = text.substring(at);
        return switch (random.nextInt(8)) {
            case 0 -> head;
            case 1 -> head + text.substring(to);
            case 2 -> head + SIGNS.charAt(random.nextInt(SIGNS.length())) + tail;
            case 3 -> head + (char) ('a' + random.nextInt(26)) + tail;
            case 4 -> head + (char) ('0' + random.nextInt(10)) + tail;
            case 5 -> head + PIECES[random.nextInt(PIECES.length)] + text.substring(to);
            case 6 -> head + (char) random.nextInt(256) + text.substring(to);
            default -> inPlaceOfToken(text, random);
        };
    }

    private static String inPlaceOfToken(String text, Random random) {
        List<String> tokens = new ArrayList<>(List.of(text.split("(?<=[^a-z0-9])|(?=[^a-z0-9])")));
        tokens.set(random.nextInt(tokens.size()), PIECES[random.nextInt(PIECES.length)]);
        return String.join("", tokens);
    }

    private static void compare(Watched x, String text) {
        TextModel model = new TextModel(text);
        SEEN[model.fault]++;
        int bars = x.has(0);
        CHECKS.due("rig of " + text, x.rig(text), model.fault == 0 ? model.statements : FlyingBars.NONE);
        CHECKS.due("fault(0) of " + text, x.fault(0), model.fault);
        CHECKS.due("fault(1) of " + text, x.fault(1), model.place);
        CHECKS.due("bars of " + text, x.has(0), model.fault == 0 ? model.bars.size() : bars);
        if (model.fault == 0) {
            CHECKS.due("boards of " + text, x.has(1), model.boards.size());
            CHECKS.due("tricks of " + text, x.has(2), model.tricks.size());
            // Of two on one bar the document does not say whether they are one.
            long unlike = model.caught.stream().distinct().count();
            CHECKS.due("catchers of " + text, unlike == model.caught.size() ? x.has(3) : unlike, unlike);
        }
    }
}
