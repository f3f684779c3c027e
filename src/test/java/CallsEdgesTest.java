/** "An object is used for at most 512 calls after it has been made": up to the last of them it answers as promised. */
public final class CallsEdgesTest {
    private static final int NONE = WhiskedDuchy.NONE;
    private static final int LAST = 512;
    private static final int COOK_AND_MINISTER = 'k' << 24 | ';' << 16 | 'm' << 8;
    private static final Check check = new Check();

    public static void main(String[] args) {
        refusedUntilTheLast();
        actsUntilTheLast();
        fallsUntilTheLast();
        textsUntilTheLast();
        imagesUntilTheLast();
        dearestUntilTheLast();
        check.finish();
    }

    /** A duchy of one cook and one minister with these items, by two calls. */
    private static WhiskedDuchy told(int items) {
        WhiskedDuchy x = new WhiskedDuchy();
        x.feed(COOK_AND_MINISTER, items, 0, 0, 0);
        check.due("text", x.text(0), 1);
        return x;
    }

    private static void refusedUntilTheLast() {
        WhiskedDuchy x = new WhiskedDuchy();
        for (int call = 1; call < LAST; call++) {
            check.due("door: no duchy", x.door(), NONE);
        }
        check.due("511 refused", x.status(0), LAST - 1);
    }

    private static void actsUntilTheLast() {
        WhiskedDuchy x = told(0);
        for (int call = 3; call < LAST; call++) {
            check.due("a day", x.days(1), call - 2);
        }
        check.due("the last call undoes the last act", x.undo(), 39);
        x = told(0);
        for (int call = 3; call < LAST; call++) {
            check.due("a day by draws", x.years(1, call), call - 2);
        }
        check.due("the log is full at the last call", x.count(13), 60);
    }

    private static void fallsUntilTheLast() {
        WhiskedDuchy x = told('n' << 24 | '0' << 16);
        for (int call = 3; call + 1 < LAST; call += 2) {
            check.due("he is folded in at 0", x.fold(0), 0);
            check.due("it falls", x.door(), 0);
        }
        check.due("how often it fell", x.count(10), (LAST - 3) / 2);
    }

    private static void textsUntilTheLast() {
        WhiskedDuchy x = new WhiskedDuchy();
        for (int call = 1; call + 1 <= LAST; call += 2) {
            check.due("a tape as long as ever", x.feed(COOK_AND_MINISTER, 0, 0, 0, 0), 3);
            check.due("a duchy more", x.text(0), 1);
        }
        x = new WhiskedDuchy();
        for (int call = 1; call + 1 < LAST; call += 2) {
            x.feed('y' << 24 | ':' << 16 | '1' << 8, 0, 0, 0, 0);
            check.due("four laws, then none", x.text(1), call < 8 ? call / 2 : NONE);
        }
        check.due("what is refused stays on the tape", x.count(3), 240);
    }

    private static void imagesUntilTheLast() {
        WhiskedDuchy x = told(0);
        for (int call = 3; call + 2 <= LAST; call += 3) {
            check.due("an image", x.image(), call / 3 - 1);
            check.due("back", x.back(), call / 3 - 1);
            check.due("a day", x.days(1), call / 3);
        }
    }

    /** The longest law and all that can be seen: what takes longest still ends, 512 times. */
    private static void dearestUntilTheLast() {
        WhiskedDuchy x = Check.duchy("k;k;k;k;m;m;m;m;m;m;m");
        String law = "y:" + "1+0*s+".repeat(39) + "0*y";
        check.due("how long the law is", law.length(), 239);
        x.law(Check.tell(x, 1, law));
        for (int i = 0; i < 10; i++) {
            x.seen(i % 4, 40, 99, true);
        }
        for (int i = 0; i < 160; i++) {
            check.due("all fit", x.fits(NONE), 10);
            check.due("try", x.probe(i % 4, 99), 1);
            check.due("odds", x.odds(8, i % 101, 0), 1000000000);
        }
    }
}
