import java.util.ArrayDeque;
import java.util.ArrayList;
import java.util.Deque;
import java.util.List;

/**
 * Reads a rig's text once more, from Terms I alone and in another way than the class does: what may come next stands
 * on a stack of symbols, and each token takes the uppermost one off or puts others in its place.
 */
final class TextModel {
    static final List<String> OWN_WORDS = List.of("bar", "at", "every", "from", "reach", "board", "catcher", "trick",
            "ticks", "arms", "worth", "when", "or", "and", "not", "all", "miss", "swing", "gap", "tick", "thrown",
            "caught", "done", "again", "min", "max");
    private static final List<String> VALUES = List.of("miss", "swing", "gap", "tick", "thrown", "caught", "done", "again");

    int fault;
    int place = -1;
    int statements;
    final List<String> bars = new ArrayList<>();
    final List<String> boards = new ArrayList<>();
    final List<String> tricks = new ArrayList<>();
    final List<String> caught = new ArrayList<>();
    final List<Integer> numbers = new ArrayList<>();

    private final String text;
    private final Deque<String> stack = new ArrayDeque<>();
    private String token = "";
    private int start;
    private int stop;
    private int open;

    TextModel(String text) {
        this.text = text;
        scan();
        push("RIG");
        while (fault == 0 && !stack.isEmpty()) {
            go(stack.pop());
        }
    }

    private void push(String... symbols) {
        for (int i = symbols.length - 1; i >= 0; i--) {
            stack.push(symbols[i]);
        }
    }

    private static boolean isLetter(char c) {
        return c >= 'a' && c <= 'z';
    }

    private static boolean isDigit(char c) {
        return c >= '0' && c <= '9';
    }

    private static boolean isLong(String token) {
        return !token.isEmpty() && (isLetter(token.charAt(0)) || isDigit(token.charAt(0)));
    }

    /** The next token; one that sticks to the last one, both being words or numbers, is read as a sign of no use. */
    private void scan() {
        boolean stuck = isLong(token) && stop < text.length() && isLong(text.substring(stop, stop + 1));
        start = stop;
        while (start < text.length() && (text.charAt(start) == 32 || text.charAt(start) == 10)) {
            start++;
        }
        stop = start;
        while (stop < text.length() && isLetter(text.charAt(stop))) {
            stop++;
        }
        while (stop < text.length() && (stop == start || isDigit(text.charAt(start))) && isDigit(text.charAt(stop))) {
            stop++;
        }
        stop = stop == start && stop < text.length() ? stop + 1 : stop;
        token = stuck ? "?" : text.substring(start, stop);
    }

    private void fail(int what, int where) {
        fault = what;
        place = where;
    }

    private void go(String symbol) {
        if (symbol.startsWith("'")) {
            if (token.equals(symbol.substring(1))) {
                scan();
            } else {
                fail(1, start);
            }
        } else if (symbol.startsWith("N ")) {
            number(symbol.split(" "));
        } else if (symbol.startsWith("NAME")) {
            name(symbol.substring(5));
        } else {
            rule(symbol);
        }
    }

    private void number(String[] range) {
        if (token.isEmpty() || !isDigit(token.charAt(0))) {
            fail(1, start);
        } else if (token.length() > 4) {
            fail(1, start + 4);
        } else {
            int n = Integer.parseInt(token);
            if (n < Integer.parseInt(range[1]) || n > Integer.parseInt(range[2])) {
                fail(2, start);
            } else {
                numbers.add(n);
                scan();
            }
        }
    }

    private void name(String kind) {
        if (token.isEmpty() || !isLetter(token.charAt(0)) || OWN_WORDS.contains(token)) {
            fail(1, start);
        } else if (token.length() > 6) {
            fail(1, start + 6);
        } else if (kind.equals("catcher") ? !bars.contains(token)
                : bars.contains(token) || boards.contains(token) || tricks.contains(token)) {
            fail(3, start);
        } else {
            (kind.equals("bar") ? bars : kind.equals("board") ? boards : kind.equals("trick") ? tricks : caught).add(token);
            scan();
        }
    }

    private void rule(String symbol) {
        switch (symbol) {
            case "RIG" -> rig();
            case "COUNT" -> statements++;
            case "CLOSE" -> open--;
            case "TEST" -> push("BOTH", "or?");
            case "or?" -> more(token.equals("or"), "BOTH", "or?");
            case "BOTH" -> push("FACT", "and?");
            case "and?" -> more(token.equals("and"), "FACT", "and?");
            case "FACT" -> fact();
            case "SIGN" -> sign();
            case "SUM" -> push("PRODUCT", "sum?");
            case "sum?" -> more(token.equals("+") || token.equals("-"), "PRODUCT", "sum?");
            case "PRODUCT" -> push("PART", "product?");
            case "product?" -> more(token.equals("*") || token.equals("/"), "PART", "product?");
            case "PART" -> part();
            case "OPEN" -> opened("(");
            default -> throw new IllegalStateException(symbol);
        }
    }

    private void more(boolean goesOn, String... then) {
        if (goesOn) {
            scan();
            push(then);
        }
    }

    private void opened(String sign, String... then) {
        if (!token.equals(sign)) {
            fail(1, start);
        } else if (open == 6) {
            fail(4, start);
        } else {
            open++;
            scan();
            push(then);
        }
    }

    private void rig() {
        if (start == text.length()) {
            return;
        }
        if (statements == 30 || token.equals("bar") && bars.size() == 8 || token.equals("board") && boards.size() == 4
                || token.equals("trick") && tricks.size() == 8) {
            fail(5, start);
            return;
        }
        push("';", "COUNT", "RIG");
        switch (token) {
            case "bar" -> push("'bar", "NAME bar", "'at", "N 0 400", "'every", "N 4 40", "'from", "N 0 39", "'reach", "N 0 60");
            case "board" -> push("'board", "NAME board", "'at", "N 0 400");
            case "catcher" -> push("'catcher", "NAME catcher");
            case "trick" -> push("'trick", "NAME trick", "'ticks", "N 1 20", "'arms", "N 0 40", "'worth", "SUM", "'when", "TEST");
            default -> fail(1, start);
        }
    }

    private void fact() {
        switch (token) {
            case "not" -> opened("not", "FACT", "CLOSE");
            case "[" -> opened("[", "TEST", "']", "CLOSE");
            case "all" -> scan();
            default -> push("SUM", "SIGN", "SUM");
        }
    }

    private void sign() {
        if (token.equals("<") || token.equals(">") || token.equals("=")) {
            scan();
        } else {
            fail(1, start);
        }
    }

    private void part() {
        if (VALUES.contains(token)) {
            scan();
        } else if (token.equals("(")) {
            opened("(", "SUM", "')", "CLOSE");
        } else if (token.equals("min") || token.equals("max")) {
            scan();
            push("OPEN", "SUM", "',", "SUM", "')", "CLOSE");
        } else {
            push("N 0 9999");
        }
    }
}
