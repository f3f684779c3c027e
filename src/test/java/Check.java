/** Feeds texts, compares answers, and ends with exit code 1 if one was not as due. */
final class Check {
    private int asked = 0;
    private int wrong = 0;

    void due(String call, long got, long want) {
        asked++;
        if (got != want) {
            wrong++;
            System.out.println(call + " answered " + got + ", due is " + want);
        }
    }

    void due(String call, boolean got, boolean want) {
        due(call, got ? 1 : 0, want ? 1 : 0);
    }

    void finish() {
        System.out.println(asked + " answers, " + wrong + " not as due");
        if (wrong != 0 || asked == 0) {
            System.exit(1);
        }
    }

    /** The number whose four bytes are these signs of a text, 0 behind its end. */
    static int four(String text, int from) {
        int number = 0;
        for (int i = from; i < from + 4; i++) {
            number = number << 8 | (i < text.length() ? text.charAt(i) & 255 : 0);
        }
        return number;
    }

    static int feed(WhiskedDuchy x, String text) {
        int size = x.count(3);
        for (int i = 0; i < text.length() && size != WhiskedDuchy.NONE; i += 20) {
            size = x.feed(four(text, i), four(text, i + 4), four(text, i + 8), four(text, i + 12), four(text, i + 16));
        }
        return size;
    }

    static int faultOf(int sort, String text) {
        WhiskedDuchy x = new WhiskedDuchy();
        feed(x, text);
        return x.fault(sort);
    }

    static WhiskedDuchy duchy(String text) {
        WhiskedDuchy x = new WhiskedDuchy();
        tell(x, 0, text);
        return x;
    }

    static WhiskedDuchy duchy(String text, String law) {
        WhiskedDuchy x = duchy(text);
        x.law(tell(x, 1, law));
        return x;
    }

    static int tell(WhiskedDuchy x, int sort, String text) {
        feed(x, text);
        int answer = x.text(sort);
        if (answer < 0) {
            throw new IllegalStateException("the test's own text is wrong: " + text);
        }
        return answer;
    }
}
