import java.util.function.IntPredicate;

/**
 * The grammar of both texts once more, in another way than the class has it: every way to go on is
 * tried, and the fault is the furthest byte that no way could take.
 */
final class Grammar {
    private static final String[] LETTERS = {"aycp", "we", "wvnl"};
    private static final int[][] LEAST = {{0, 0, 0, 0}, {1, 1}, {0, 0, 0, 0}};
    private static final int[][] MOST = {{9, 9, 1, 99}, {9, 40}, {9, 9, 40, 9}};

    private final String text;
    private int furthest = 0;

    private Grammar(String text) {
        this.text = text;
    }

    static int fault(int sort, String text) {
        Grammar grammar = new Grammar(text);
        boolean is = sort == 0 ? grammar.duchy(0, 0, 0, 0) : grammar.law(0);
        return is ? -1 : grammar.furthest;
    }

    private int skip(int at) {
        int i = at;
        while (i < text.length() && text.charAt(i) == ' ') {
            i++;
        }
        return i;
    }

    private boolean sign(int at, String signs, IntPredicate then) {
        int i = skip(at);
        furthest = Math.max(furthest, i);
        return i < text.length() && signs.indexOf(text.charAt(i)) >= 0 && then.test(i + 1);
    }

    private boolean over(int at) {
        int i = skip(at);
        furthest = Math.max(furthest, i);
        return i == text.length();
    }

    private boolean number(int at, int digits, int least, int most, IntPredicate then) {
        int i = skip(at);
        furthest = Math.max(furthest, i);
        int end = i;
        while (end < text.length() && text.charAt(end) >= '0' && text.charAt(end) <= '9') {
            end++;
        }
        if (end == i) {
            return false;
        }
        if (end - i > digits) {
            furthest = Math.max(furthest, i + digits);
            return false;
        }
        int value = Integer.parseInt(text.substring(i, end));
        furthest = Math.max(furthest, end - 1);
        return value >= least && value <= most && then.test(end);
    }

    private boolean duchy(int at, int rules, int cooks, int ministers) {
        return rules < 1 && sign(at, "s", i -> items(i, 0, "", j -> moreDuchy(j, 1, cooks, ministers)))
            || cooks < 4 && sign(at, "k", i -> items(i, 1, "", j -> moreDuchy(j, rules, cooks + 1, ministers)))
            || ministers < 7 && sign(at, "m", i -> items(i, 2, "", j -> moreDuchy(j, rules, cooks, ministers + 1)))
            || sign(at, "", i -> true);
    }

    private boolean moreDuchy(int at, int rules, int cooks, int ministers) {
        return sign(at, ";", i -> duchy(i, rules, cooks, ministers)) || over(at) && cooks > 0 && ministers > 0;
    }

    private boolean items(int at, int kind, String had, IntPredicate then) {
        for (int what = 0; what < LETTERS[kind].length(); what++) {
            String letter = LETTERS[kind].substring(what, what + 1);
            int w = what;
            if (!had.contains(letter) && sign(at, letter, i -> number(i, 2, LEAST[kind][w], MOST[kind][w],
                j -> items(j, kind, had + letter, then)))) {
                return true;
            }
        }
        return then.test(at);
    }

    private boolean law(int at) {
        return sign(at, "y", i -> sign(i, ":", j -> sum(j, 0, this::moreLaw)
            || condition(j, 0, k -> sign(k, "?", l -> sum(l, 0, this::moreLaw)))));
    }

    private boolean moreLaw(int at) {
        return sign(at, ";", this::law) || over(at);
    }

    private boolean condition(int at, int depth, IntPredicate then) {
        return truth(at, depth, i -> sign(i, "|", j -> condition(j, depth, then)) || then.test(i));
    }

    private boolean truth(int at, int depth, IntPredicate then) {
        return unit(at, depth, i -> sign(i, "&", j -> truth(j, depth, then)) || then.test(i));
    }

    private boolean unit(int at, int depth, IntPredicate then) {
        return depth < 6 && sign(at, "!", i -> unit(i, depth + 1, then))
            || depth < 6 && sign(at, "(", i -> condition(i, depth + 1, j -> sign(j, ")", then)))
            || sum(at, depth, i -> sign(i, "=<>", j -> sum(j, depth, then)));
    }

    private boolean sum(int at, int depth, IntPredicate then) {
        return term(at, depth, i -> sign(i, "+-", j -> sum(j, depth, then)) || then.test(i));
    }

    private boolean term(int at, int depth, IntPredicate then) {
        return atom(at, depth, i -> sign(i, "*/", j -> term(j, depth, then)) || then.test(i));
    }

    private boolean atom(int at, int depth, IntPredicate then) {
        return sign(at, "wsnyac", then)
            || depth < 6 && sign(at, "[", i -> sum(i, depth + 1, j -> sign(j, "]", then)))
            || number(at, 4, 0, 9999, then);
    }
}
