import java.util.List;
import java.util.function.Supplier;
import java.util.function.ToLongFunction;

/** Feeds texts, compares answers, and ends with exit code 1 if one was not as due. */
final class Check {
    private int answers = 0;
    private int wrong = 0;

    void due(String call, long got, long want) {
        answers++;
        if (got != want) {
            wrong++;
            System.out.println(call + " answered " + got + ", due is " + want);
        }
    }

    void due(String call, boolean got, boolean want) {
        due(call, got ? 1 : 0, want ? 1 : 0);
    }

    /** The call is refused: it answers NONE, STATUS counts it for this reason, and nothing else has changed. */
    void refused(String call, Supplier<WhiskedDuchy> made, ToLongFunction<WhiskedDuchy> called, int status) {
        leaves(call, made, called, WhiskedDuchy.NONE, status);
    }

    /** The call answers so, and nothing at all has changed by it. */
    void leaves(String call, Supplier<WhiskedDuchy> made, ToLongFunction<WhiskedDuchy> called, long want) {
        leaves(call, made, called, want, -1);
    }

    private void leaves(String call, Supplier<WhiskedDuchy> made, ToLongFunction<WhiskedDuchy> called, long want, int status) {
        WhiskedDuchy asked = made.get();
        due(call, called.applyAsLong(asked), want);
        List<String> got = Whole.of(asked, -1);
        List<String> were = Whole.of(made.get(), status);
        due(call + ": how much can be asked then", got.size(), were.size());
        for (int i = 0; i < Math.min(got.size(), were.size()); i++) {
            answers++;
            if (!got.get(i).equals(were.get(i))) {
                wrong++;
                System.out.println("behind " + call + ": " + got.get(i) + ", due is " + were.get(i));
            }
        }
    }

    void finish() {
        System.out.println(answers + " answers, " + wrong + " not as due");
        if (wrong != 0 || answers == 0) {
            System.exit(1);
        }
    }

    /** The number whose four bytes are these signs of a text, 0 behind its end. */
    static int four(String text, int from) {
        int number = 0;
        for (int i = from; i < from + 4; i++) {
            number = number << 8 | (i < text.length() ? text.charAt(i) & 255 : 0);
        }
        return number;
    }

    static int feed(WhiskedDuchy x, String text) {
        int size = x.count(3);
        for (int i = 0; i < text.length() && size != WhiskedDuchy.NONE; i += 20) {
            size = x.feed(four(text, i), four(text, i + 4), four(text, i + 8), four(text, i + 12), four(text, i + 16));
        }
        return size;
    }

    static int faultOf(int sort, String text) {
        WhiskedDuchy x = new WhiskedDuchy();
        feed(x, text);
        return x.fault(sort);
    }

    static WhiskedDuchy duchy(String text) {
        WhiskedDuchy x = new WhiskedDuchy();
        tell(x, 0, text);
        return x;
    }

    static WhiskedDuchy duchy(String text, String law) {
        WhiskedDuchy x = duchy(text);
        x.law(tell(x, 1, law));
        return x;
    }

    /** The values next to bounds that are not allowed any more, and those furthest off. */
    static int[] outside(int least, int most) {
        return new int[] {Integer.MIN_VALUE, least - 1, most + 1, Integer.MAX_VALUE};
    }

    /**
     * A duchy told so, whose cook 0 (of endurance 20 or more) has whisked until it stands at v; of the four
     * laws two are told for it, none holds then.
     */
    static WhiskedDuchy standing(String text, int v) {
        WhiskedDuchy x = duchy(text);
        tell(x, 1, "y:9");
        tell(x, 1, "y:1");
        raise(x, v);
        return x;
    }

    /** In a duchy made by standing(..), cook 0 whisks until it stands higher by v; no law holds then. */
    static void raise(WhiskedDuchy x, int v) {
        int was = x.count(6);
        x.law(0);
        whisk(x, v / 9);
        x.law(1);
        whisk(x, v % 9);
        x.law(WhiskedDuchy.NONE);
        if (x.count(6) != was + v) {
            throw new IllegalStateException("the test's own cook can't whisk so much: " + v);
        }
    }

    private static void whisk(WhiskedDuchy x, int n) {
        if (n > 0) {
            x.strokes(0, n);
        }
    }

    static int tell(WhiskedDuchy x, int sort, String text) {
        feed(x, text);
        int answer = x.text(sort);
        if (answer < 0) {
            throw new IllegalStateException("the test's own text is wrong: " + text);
        }
        return answer;
    }
}
