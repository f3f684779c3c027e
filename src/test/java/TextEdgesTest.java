import java.util.regex.Pattern;

/** The bounds that part 1 of the Terms and promises 1 to 5 name for texts, sentence by sentence. */
public final class TextEdgesTest {
    private static final int NONE = WhiskedDuchy.NONE;
    private static final Check check = new Check();

    public static void main(String[] args) {
        oneRulesAtMost();
        cooksOneToFour();
        ministersOneToSeven();
        anyOrder();
        allPlacesTaken();
        eachLetterOnce();
        lettersOfTheClauseAlone();
        oneOrTwoDigits();
        boundsOfItems();
        withoutItems();
        endsTooEarly();
        lawClauses();
        lawNumbers();
        signsThatMayFollow();
        sixWithinOneAnother();
        sideBySide();
        blanks();
        longestTexts();
        fourLaws();
        lawsWithoutADuchy();
        feedOfTwentyBytes();
        feedUpTo240();
        endOfTape();
        nothingBehindTheEnd();
        textEmptiesTheTape();
        check.finish();
    }

    private static void fault(int sort, String text, int want) {
        check.due("fault(" + sort + ") of '" + text + "'", Check.faultOf(sort, text), want);
    }

    // ---- duchies: how many clauses ----

    private static void oneRulesAtMost() {
        fault(0, "k;m", NONE);
        fault(0, "s;k;m", NONE);
        fault(0, "k;m;s", NONE);
        fault(0, "s;s;k;m", 2);
        fault(0, "s;k;m;s", 6);
        fault(0, "sa1;k;m;  sy1", 10);
    }

    private static void cooksOneToFour() {
        fault(0, "m", 1);
        fault(0, "m;s", 3);
        fault(0, "m;m  ", 5);
        fault(0, "m;k", NONE);
        fault(0, "k;k;k;k;m", NONE);
        fault(0, "k;k;k;k;k", 8);
        fault(0, "m;k;k;k;k;k", 10);
        fault(0, "m;k;k;k;k;s;  kw5", 14);
    }

    private static void ministersOneToSeven() {
        fault(0, "k", 1);
        fault(0, "k;s", 3);
        fault(0, "k;k  ", 5);
        fault(0, "k;m", NONE);
        fault(0, "m;m;m;m;m;m;m;k", NONE);
        fault(0, "m;m;m;m;m;m;m;m", 14);
        fault(0, "k;m;m;m;m;m;m;m;m", 16);
        fault(0, "k;m;m;m;m;m;m;m;s;  mw5", 20);
    }

    private static void anyOrder() {
        String[] orders = {"sa9;kw9;mw9", "sa9;mw9;kw9", "kw9;sa9;mw9", "kw9;mw9;sa9", "mw9;sa9;kw9", "mw9;kw9;sa9"};
        for (String order : orders) {
            WhiskedDuchy x = Check.duchy(order);
            check.due(order + ": rule(0)", x.rule(0), 9);
            check.due(order + ": cook(0, 0)", x.cook(0, 0), 9);
            check.due(order + ": minister(0, 0)", x.minister(0, 0), 9);
        }
        WhiskedDuchy x = Check.duchy("mw1;kw1;mw2;sa5;kw2;mw3;kw3");
        for (int i = 0; i < 3; i++) {
            check.due("cooks by their order", x.cook(i, 0), i + 1);
            check.due("ministers by theirs", x.minister(i, 0), i + 1);
        }
    }

    private static void allPlacesTaken() {
        String full = "s;kw1;kw2;kw3;kw4;mv1;mv2;mv3;mv4;mv5;mv6;mv7";
        WhiskedDuchy x = new WhiskedDuchy();
        Check.feed(x, full);
        check.due("text(0) of all places", x.text(0), 7);
        check.due("count(0)", x.count(0), 7);
        check.due("count(1)", x.count(1), 4);
        check.due("the last cook", x.cook(3, 0), 4);
        check.due("the last minister", x.minister(6, 1), 7);
        fault(0, full + ";", full.length() + 1);
        fault(0, full + ";s", full.length() + 1);
        fault(0, full + ";k", full.length() + 1);
        fault(0, full + ";m", full.length() + 1);
        WhiskedDuchy one = new WhiskedDuchy();
        Check.feed(one, "k;m");
        check.due("text(0) of one each", one.text(0), 1);
    }

    // ---- duchies: items ----

    private static final String[] CLAUSES = {"s", "k", "m"};
    private static final String[] OTHERS = {";k;m", ";m", ";k"};
    private static final String[] LETTERS = {"aycp", "we", "wvnl"};
    private static final int[][] LEAST = {{0, 0, 0, 0}, {1, 1}, {0, 0, 0, 0}};
    private static final int[][] MOST = {{9, 9, 1, 99}, {9, 40}, {9, 9, 40, 9}};
    private static final int[][] WITHOUT = {{2, 0, 0, 20}, {4, 15}, {2, 3, 10, 1}};

    private static void eachLetterOnce() {
        for (int kind = 0; kind < 3; kind++) {
            StringBuilder all = new StringBuilder(CLAUSES[kind]);
            for (char letter : LETTERS[kind].toCharArray()) {
                fault(0, CLAUSES[kind] + letter + "1" + letter + "1" + OTHERS[kind], 3);
                fault(0, CLAUSES[kind] + letter + "1 " + letter, 4);
                all.append(letter).append("1");
            }
            fault(0, all + OTHERS[kind], NONE);
            for (char letter : LETTERS[kind].toCharArray()) {
                fault(0, all + "" + letter + "1" + OTHERS[kind], all.length());
            }
        }
        fault(0, "kw1e1;kw1e1;mw1v1n1l1;mw1v1n1l1", NONE);
    }

    private static void lettersOfTheClauseAlone() {
        for (int kind = 0; kind < 3; kind++) {
            for (int sign = 1; sign < 256; sign++) {
                if (sign != ' ' && sign != ';' && LETTERS[kind].indexOf(sign) < 0) {
                    fault(0, CLAUSES[kind] + (char) sign + "1" + OTHERS[kind], 1);
                }
            }
        }
    }

    private static void oneOrTwoDigits() {
        for (int kind = 0; kind < 3; kind++) {
            for (char letter : LETTERS[kind].toCharArray()) {
                String begun = CLAUSES[kind] + letter;
                fault(0, begun + OTHERS[kind], 2);
                fault(0, begun + "1" + OTHERS[kind], NONE);
                fault(0, begun + "01" + OTHERS[kind], NONE);
                fault(0, begun + "001" + OTHERS[kind], 4);
                fault(0, begun + "000" + OTHERS[kind], 4);
                fault(0, begun + "999" + OTHERS[kind], 4);
                fault(0, begun + "9999" + OTHERS[kind], 4);
                fault(0, begun + "  999", 6);
            }
        }
    }

    private static int told(WhiskedDuchy x, int kind, int what) {
        return kind == 0 ? x.rule(what) : kind == 1 ? x.cook(0, what) : x.minister(0, what);
    }

    private static void boundsOfItems() {
        for (int kind = 0; kind < 3; kind++) {
            for (int what = 0; what < LETTERS[kind].length(); what++) {
                String begun = CLAUSES[kind] + LETTERS[kind].charAt(what);
                for (int number = 0; number < 100; number++) {
                    String text = begun + number + OTHERS[kind];
                    boolean is = number >= LEAST[kind][what] && number <= MOST[kind][what];
                    fault(0, text, is ? NONE : number < 10 ? 2 : 3);
                    if (is) {
                        check.due("what " + text + " tells", told(Check.duchy(text), kind, what), number);
                    }
                    if (number < 10) {
                        fault(0, begun + "0" + number + OTHERS[kind], is ? NONE : 3);
                    }
                }
            }
        }
    }

    private static void withoutItems() {
        WhiskedDuchy x = Check.duchy("k;m");
        WhiskedDuchy y = Check.duchy("s;k;m");
        for (int kind = 0; kind < 3; kind++) {
            for (int what = 0; what < WITHOUT[kind].length; what++) {
                check.due("without: " + kind + ", " + what, told(x, kind, what), WITHOUT[kind][what]);
                check.due("an empty clause: " + kind + ", " + what, told(y, kind, what), WITHOUT[kind][what]);
            }
        }
        WhiskedDuchy z = Check.duchy("sa9y9c1p99;kw9e40;mw9v9n40l9;k;m");
        check.due("a second cook without", z.cook(1, 0) * 100 + z.cook(1, 1), 415);
        check.due("a second minister without", z.minister(1, 0) * 1000 + z.minister(1, 1) * 100 + z.minister(1, 2), 2310);
        check.due("what it loses by him without", z.minister(1, 3), 1);
        Check.tell(z, 0, "k;m");
        for (int kind = 0; kind < 3; kind++) {
            for (int what = 0; what < WITHOUT[kind].length; what++) {
                check.due("without, behind another one: " + kind + ", " + what, told(z, kind, what), WITHOUT[kind][what]);
            }
        }
    }

    /** Every beginning of a right text is right itself, or its fault is its length. */
    private static void endsTooEarly() {
        String duchy = " k w 5 e 40 ; s a 1 y2c1p99;m w1v1n10l1 ; k";
        Pattern whole = Pattern.compile("k(\\w\\d+)*;s(\\w\\d+)*;m(\\w\\d+)*(;k)?");
        for (int n = 0; n <= duchy.length(); n++) {
            String begun = duchy.substring(0, n);
            fault(0, begun, whole.matcher(begun.replace(" ", "")).matches() ? NONE : n);
        }
        String law = "y : ! ( w = 1 | [s+2] > n ) & 3<y ? [ a - c ] * 12 ; y:7/[2] ";
        whole = Pattern.compile("[^?]*\\?\\[a-c\\](\\*\\d+)?|[^?]*\\?\\[a-c\\]\\*12;y:7(/\\[2\\])?");
        for (int n = 0; n <= law.length(); n++) {
            String begun = law.substring(0, n);
            fault(1, begun, whole.matcher(begun.replace(" ", "")).matches() ? NONE : n);
        }
    }

    // ---- laws ----

    private static void lawClauses() {
        fault(1, "", 0);
        fault(1, " ", 1);
        fault(1, ";", 0);
        fault(1, "y:1", NONE);
        fault(1, "y:1;", 4);
        fault(1, ";y:1", 0);
        fault(1, "y:1;;y:1", 4);
        fault(1, "y:1;y:1", NONE);
        fault(1, "y1", 1);
        fault(1, "yy:1", 1);
        fault(1, "s:1", 0);
        fault(1, "y::1", 2);
        fault(1, "y:?1", 2);
        fault(1, "y:1?1", 3);
        fault(1, "y:1=1?1", NONE);
        fault(1, "y:1=1?", 6);
        fault(1, "y:1=1?1=1", 7);
        fault(1, "y:(1=1)?1", NONE);
        fault(1, "y:(1)", 4);
        fault(1, "y:()?1", 3);
        fault(1, "y:!?1", 3);
        fault(1, "y:1=?1", 4);
        fault(1, "y:=1?1", 2);
        fault(1, "y:1==1?1", 4);
        fault(1, "y:1=1&?1", 6);
        fault(1, "y:1=1|?1", 6);
        fault(1, "y:1=1&|1=1?1", 6);
        fault(1, "y:1=1!1=1?1", 5);
        fault(1, "y:1=!1?1", 4);
        fault(1, "y:1+-1", 4);
        fault(1, "y:+1", 2);
        fault(1, "y:-1", 2);
        fault(1, "y:[]", 3);
        fault(1, "y:[1)", 4);
        fault(1, "y:(1=1]?1", 6);
        fault(1, "y:[(1)]", 3);
        fault(1, "y:[!1]", 3);
    }

    private static void lawNumbers() {
        for (String number : new String[] {"0", "9", "00", "99", "000", "999", "0000", "9999"}) {
            fault(1, "y:" + number, NONE);
            fault(1, "y:w=" + number + "?[" + number + "]", NONE);
        }
        for (String number : new String[] {"00000", "00001", "10000", "99999", "123456"}) {
            fault(1, "y:" + number, 6);
            fault(1, "y:w+[ " + number + "]", 10);
            fault(1, "y:" + number + "=1?1", 6);
            fault(1, "y:1=1?" + number, 10);
        }
        WhiskedDuchy x = Check.duchy("k;m", "y:0007");
        check.due("four digits", x.behind(0, 1), 7);
    }

    private static void mayFollow(int sort, String begun, String rightThen, String rightLater) {
        for (int sign = 1; sign < 256; sign++) {
            String text = begun + (char) sign;
            if (rightThen.indexOf(sign) >= 0) {
                fault(sort, text, NONE);
            } else {
                fault(sort, text, rightLater.indexOf(sign) >= 0 ? text.length() : begun.length());
            }
        }
    }

    /** All 255 bytes behind a beginning: by these it is right, by those it may go on, by the others not. */
    private static void signsThatMayFollow() {
        mayFollow(0, "", "", "skm ");
        mayFollow(0, "k", "", "we; ");
        mayFollow(0, "ke", "", "123456789 ");
        mayFollow(0, "ke4", "", "0; w");
        mayFollow(0, "ke39", "", "; w");
        mayFollow(0, "k;", "m", "sk ");
        mayFollow(0, "k;m", " ", "wvnl;");
        mayFollow(0, "k;mv", "0123456789", " ");
        mayFollow(0, "k;mv ", "0123456789", " ");
        mayFollow(0, "k;mv0", "0123456789 ", ";wnl");
        mayFollow(0, "k;mv 1 ", " ", ";wnl");
        mayFollow(1, "", "", "y ");
        mayFollow(1, "y", "", ": ");
        mayFollow(1, "y:", "wsnyac0123456789", "[(! ");
        mayFollow(1, "y:[", "", "wsnyac0123456789[ ");
        mayFollow(1, "y:(", "", "wsnyac0123456789[(! ");
        mayFollow(1, "y:!", "", "wsnyac0123456789[(! ");
        mayFollow(1, "y:w", " ", "+-*/=<>;");
        mayFollow(1, "y:1234", " ", "+-*/=<>;");
        mayFollow(1, "y:123", "0123456789 ", "+-*/=<>;");
        mayFollow(1, "y:w+", "wsnyac0123456789", "[ ");
        mayFollow(1, "y:w/", "wsnyac0123456789", "[ ");
        mayFollow(1, "y:w<", "", "wsnyac0123456789[ ");
        mayFollow(1, "y:w<s", "", "+-*/&|? ");
        mayFollow(1, "y:w<s&", "", "wsnyac0123456789[(! ");
        mayFollow(1, "y:(w<s", "", "+-*/&|) ");
        mayFollow(1, "y:(w<s)", "", "&|? ");
        mayFollow(1, "y:[w", "]", "+-*/ ");
        mayFollow(1, "y:[w]", " ", "+-*/=<>;");
        mayFollow(1, "y:w<s?", "wsnyac0123456789", "[ ");
        mayFollow(1, "y:w<s?w", " ", "+-*/;");
    }

    private static String condition(String signs) {
        if (signs.startsWith("!")) {
            return "!" + condition(signs.substring(1));
        }
        return signs.startsWith("(") ? "(" + condition(signs.substring(1)) + ")" : sum(signs) + "=1";
    }

    private static String sum(String signs) {
        return signs.isEmpty() ? "1" : "[" + sum(signs.substring(1)) + "]";
    }

    /** Every order in which ( [ ! can stand within one another: behind [ stands none but [. */
    private static void sixWithinOneAnother() {
        for (int deep = 6; deep <= 8; deep++) {
            for (int squares = 0; squares <= deep; squares++) {
                for (int bits = 0; bits < 1 << deep - squares; bits++) {
                    StringBuilder signs = new StringBuilder();
                    for (int i = 0; i < deep - squares; i++) {
                        signs.append((bits >> i) % 2 == 0 ? '(' : '!');
                    }
                    signs.append("[".repeat(squares));
                    fault(1, "y:" + condition(signs.toString()) + "?1", deep == 6 ? NONE : 8);
                }
            }
            fault(1, "y:1=" + sum("[".repeat(deep)) + "?1", deep == 6 ? NONE : 10);
            fault(1, "y:1=1?" + sum("[".repeat(deep)), deep == 6 ? NONE : 12);
            for (String sign : new String[] {"[", "(", "!"}) {
                String unit = condition(sign.repeat(deep));
                fault(1, "y:1=1&" + unit + "?1", deep == 6 ? NONE : 12);
                fault(1, "y:1=1|" + unit + "?1", deep == 6 ? NONE : 12);
                fault(1, "y:!1=1&" + unit + "?1", deep == 6 ? NONE : 13);
                fault(1, "y:(1=1)|" + unit + "?1", deep == 6 ? NONE : 14);
                fault(1, "y:1;y:" + unit + "?1", deep == 6 ? NONE : 12);
            }
            fault(1, "y:1+" + sum("[".repeat(deep)), deep == 6 ? NONE : 10);
            fault(1, "y:1*" + sum("[".repeat(deep)), deep == 6 ? NONE : 10);
            fault(1, "y:" + sum("[".repeat(deep)), deep == 6 ? NONE : 8);
        }
    }

    private static void sideBySide() {
        fault(1, "y:[1]" + "+[1]".repeat(20), NONE);
        fault(1, "y:!1=1" + "&!1=1".repeat(20), 106);
        fault(1, "y:!1=1" + "&!1=1".repeat(20) + "?1", NONE);
        fault(1, "y:(1=1)" + "|(1=1)".repeat(20) + "?1", NONE);
        fault(1, "y:[[[[[[1]]]]]]*[[[[[[1]]]]]]=[[[[[[1]]]]]]&!!!!!!1=1?[[[[[[1]]]]]]", NONE);
        fault(1, "y:((((((1=1)|1=1)&1=1)|1=1)&1=1)|1=1)&((((((1=1))))))?1", NONE);
        fault(1, "y:!!!!!!1=1&[[[[[[1]]]]]]=1;", 27);
    }

    // ---- blanks ----

    private static String spaced(String text, String blanks) {
        StringBuilder spaced = new StringBuilder(blanks);
        for (int i = 0; i < text.length(); i++) {
            boolean isWithinNumber = Character.isDigit(text.charAt(i)) && i + 1 < text.length()
                && Character.isDigit(text.charAt(i + 1));
            spaced.append(text.charAt(i)).append(isWithinNumber ? "" : blanks);
        }
        return spaced.toString();
    }

    private static void blanks() {
        String duchy = "sa9y8c1p99;kw7e36;mw5v4n33l2;m";
        String law = "y:!(w=12|[s+3]>n)&s<99?[y/a-c]*1234;y:7";
        fault(0, spaced(duchy, " "), NONE);
        fault(0, spaced(duchy, "   "), NONE);
        fault(1, spaced(law, " "), NONE);
        fault(1, spaced(law, "   "), NONE);
        WhiskedDuchy x = Check.duchy(spaced(duchy, " "));
        check.due("the same duchy", x.rule(3) * 100 + x.cook(0, 1), 9936);
        check.due("the same duchy", x.minister(0, 2) * 100 + x.minister(1, 2), 3310);
        for (char other : new char[] {9, 10, 13, 31, 33, 160}) {
            fault(0, "k" + other + ";m", 1);
            fault(0, "k;m" + other, 3);
            fault(1, "y:w" + other, 3);
            fault(1, other + "y:w", 0);
        }
        fault(0, "ke1 5;m", 4);
        fault(0, "ke 1 5;m", 5);
        fault(1, "y:1 5", 4);
        fault(1, "y:123 4", 6);
        fault(1, "y:1234 5", 7);
    }

    // ---- the tape ----

    private static void longestTexts() {
        fault(0, "k;m" + " ".repeat(237), NONE);
        fault(0, " ".repeat(237) + "k;m", NONE);
        fault(0, " ".repeat(239) + "k", 240);
        fault(0, " ".repeat(240), 240);
        fault(1, "y:1" + "+1".repeat(118) + " ", NONE);
        fault(1, "y:1" + "+1".repeat(118) + "+", 240);
        fault(1, "y:w=1" + "|w=1".repeat(58) + "?1 ", NONE);
        fault(1, "y:1;".repeat(59) + " y:1", NONE);
        fault(1, "y:1;".repeat(60), 240);
        WhiskedDuchy x = Check.duchy("k;m", "y:0" + "+0".repeat(117) + "+7 ");
        check.due("its last sign counts", x.behind(0, 1), 7);
        x.law(Check.tell(x, 1, "y:1=2" + "|1=2".repeat(57) + "|1=1?6 "));
        check.due("its last condition counts", x.behind(0, 1), 6);
        x.law(Check.tell(x, 1, "y:1=2?1;".repeat(29) + "y:  5  "));
        check.due("its last clause counts", x.behind(0, 1), 5);
    }

    private static void fourLaws() {
        WhiskedDuchy x = new WhiskedDuchy();
        for (int i = 0; i < 4; i++) {
            Check.feed(x, "y:" + (i + 3));
            check.due("the number of a law", x.text(1), i);
        }
        Check.feed(x, "y:9");
        check.due("a fifth", x.text(1), NONE);
        check.due("it has no fault", x.fault(1), NONE);
        x.end(0);
        check.due("a duchy beside four laws", Check.tell(x, 0, "ke40;m"), 1);
        for (int i = 0; i < 4; i++) {
            check.due("law(" + i + ")", x.law(i), true);
            check.due("by law " + i, x.behind(0, 1), i + 3);
        }
        Check.feed(x, "y:9");
        check.due("a fifth behind another duchy", x.text(1), NONE);
    }

    private static void lawsWithoutADuchy() {
        WhiskedDuchy x = new WhiskedDuchy();
        check.due("law(NONE) of none", x.law(NONE), true);
        check.due("law(0) of none", x.law(0), false);
        check.due("a law", Check.tell(x, 1, "y:7"), 0);
        check.due("law(0)", x.law(0), true);
        check.due("it holds", x.count(4), 0);
        check.due("law(1)", x.law(1), false);
        check.due("law(-2)", x.law(-2), false);
        check.due("it still holds", x.count(4), 0);
        Check.tell(x, 0, "k;m");
        check.due("by it", x.strokes(0, 1), 7);
        check.due("law(NONE)", x.law(NONE), true);
        check.due("none holds", x.count(4), NONE);
        check.due("by none", x.strokes(0, 1), 11);
    }

    private static void feedOfTwentyBytes() {
        WhiskedDuchy x = new WhiskedDuchy();
        String text = "kw5e30;mv8n10l0w2;kw";
        check.due("twenty bytes", Check.feed(x, text), 20);
        check.due("of each number the highest first", x.fault(0), 20);
        check.due("one byte", x.feed(0x37, 0, 0, 0, 0), 21);
        check.due("text", x.text(0), 1);
        check.due("the second cook", x.cook(1, 0), 7);
        check.due("zeros between", x.feed(0x6B000000, 0x003B0000, 0x00006D00, 0x00000076, 0x00380000), 5);
        check.due("are left out", x.fault(0), NONE);
        check.due("text", x.text(0), 1);
        check.due("the minister", x.minister(0, 1), 8);
        check.due("bytes of 128 to 255 stand", x.feed(0x80000000, 0x00FF0000, 0, 0, -1), 6);
    }

    private static void feedUpTo240() {
        WhiskedDuchy x = new WhiskedDuchy();
        for (int i = 1; i <= 12; i++) {
            check.due("twenty more", x.feed(-1, -1, -1, -1, -1), 20 * i);
        }
        for (int left = 0; left <= 20; left++) {
            x.end(240 - left);
            for (int more = 20; more >= 0; more--) {
                String text = "-".repeat(more);
                int got = x.feed(Check.four(text, 0), Check.four(text, 4), Check.four(text, 8), Check.four(text, 12),
                    Check.four(text, 16));
                check.due(more + " to " + (240 - left), got, more > left ? NONE : 240 - left + more);
                if (more <= left) {
                    break;
                }
            }
        }
    }

    private static void endOfTape() {
        WhiskedDuchy x = new WhiskedDuchy();
        check.due("end(0) of nothing", x.end(0), true);
        Check.feed(x, "k;m;m");
        check.due("end(5) of five", x.end(5), true);
        check.due("all five", x.count(3), 5);
        check.due("end(4)", x.end(4), true);
        check.due("the first four alone", x.count(3), 4);
        check.due("end(5) of four", x.end(5), false);
        check.due("the fault", x.fault(0), 4);
        check.due("end(3)", x.end(3), true);
        check.due("no fault", x.fault(0), NONE);
        Check.feed(x, ";mv9");
        check.due("more behind these", x.text(0), 2);
        check.due("end(0)", x.end(0), true);
        check.due("the last minister", x.minister(1, 1), 9);
    }

    /** What was cut off the tape, or taken by text, is not read any more. */
    private static void nothingBehindTheEnd() {
        for (String cut : new String[] {" ", "5", ";m", "w", "0 ", "   "}) {
            WhiskedDuchy x = new WhiskedDuchy();
            Check.feed(x, "k;m" + cut);
            x.end(3);
            check.due("no fault without '" + cut + "'", x.fault(0), NONE);
            x.end(2);
            check.due("too early without it", x.fault(0), 2);
            x.end(1);
            check.due("too early without it", x.fault(0), 1);
            x.end(0);
            check.due("too early without it", x.fault(0), 0);
            Check.feed(x, "k;mv1" + cut);
            x.end(5);
            check.due("one minister", x.text(0), 1);
            check.due("of one digit", x.minister(0, 1), 1);
            Check.feed(x, " ".repeat(40));
            x.end(0);
            Check.feed(x, "y:w+");
            check.due("too early", x.fault(1), 4);
            x.end(3);
            check.due("a law", x.text(1), 0);
            check.due("too early", x.fault(1), 0);
        }
    }

    private static void textEmptiesTheTape() {
        WhiskedDuchy x = new WhiskedDuchy();
        Check.feed(x, "k;m;m");
        check.due("text(0)", x.text(0), 2);
        check.due("empty then", x.count(3), 0);
        check.due("text(0) once more", x.text(0), NONE);
        Check.feed(x, "y:w");
        check.due("text(1)", x.text(1), 0);
        check.due("empty then", x.count(3), 0);
        check.due("text(1) once more", x.text(1), NONE);
        check.due("one law", x.count(2), 1);
        check.due("two ministers", x.count(0), 2);
    }
}
