/** Promises 19 and 20: draught, years; the draws are worked out here once more, by hand and by acts. */
public final class YearsTest {
    private static final Check check = new Check();
    private static long x;

    public static void main(String[] args) {
        draught();
        refused();
        oneDayByHand();
        for (long seed = -20; seed < 20; seed++) {
            byActs(seed * 7919 * 1000003, (int) Math.floorMod(seed, 10L));
        }
        undone();
        gloryAtMost();
        check.finish();
    }

    private static void draught() {
        WhiskedDuchy duchy = new WhiskedDuchy();
        check.due("it is so", duchy.draught(2), false);
        check.due("draught(10)", duchy.draught(10), false);
        check.due("draught(-1)", duchy.draught(-1), false);
        check.due("draught(0)", duchy.draught(0), true);
        check.due("it is so", duchy.draught(0), false);
        check.due("draught(9)", duchy.draught(9), true);
        check.due("count(11)", duchy.count(11), 9);
    }

    private static void refused() {
        check.due("no duchy", new WhiskedDuchy().years(1, 1), -1);
        WhiskedDuchy duchy = Check.duchy("k;m");
        check.due("years(0)", duchy.years(0, 1), -1);
        check.due("years(61)", duchy.years(61, 1), -1);
        check.due("years(60)", duchy.years(60, 1), 60);
        for (int i = 0; i < 15; i++) {
            duchy.days(60);
        }
        check.due("beyond 999", duchy.years(40, 1), -1);
        check.due("years(39)", duchy.years(39, 1), 999);
        check.due("beyond 999", duchy.years(1, 1), -1);
        for (int what = 0; what < 5; what++) {
            check.due("no status", duchy.status(what), 0);
        }
    }

    private static int draw(int j) {
        x = x * 6364136223846793005L + 1442695040888963407L;
        return (int) ((x >>> 33) % j);
    }

    // By a seed of 0 the first draws are of 167951807, 218396424, 1299921937, 861605236:
    // the second cook, 4 and 5 strokes, the second minister, the first one.
    private static void oneDayByHand() {
        WhiskedDuchy duchy = Check.duchy("kw1e40;kw2e40;mn0l0v4;mn0l0v5");
        duchy.draught(0);
        check.due("years", duchy.years(1, 0), 1);
        check.due("how it stood", duchy.log(0, 0), 18);
        check.due("who was in it", duchy.log(0, 1), 3);
        check.due("strokes", duchy.log(0, 2), 9);
        check.due("glory", duchy.count(9), 9);
        check.due("one act", duchy.count(14), 1);
    }

    private static void byActs(long seed, int draughty) {
        String text = "sy1c1;kw5e9;kw7;kw2e40;mn0;mn5v5;mn20v9l7;mn12w0;mn40";
        WhiskedDuchy drawn = Check.duchy(text);
        WhiskedDuchy acted = Check.duchy(text);
        drawn.draught(draughty);
        drawn.strokes(0, 7);
        acted.strokes(0, 7);
        check.due("years", drawn.years(30, seed), 30);
        x = seed;
        for (int day = 0; day < 30; day++) {
            dayByActs(acted, draughty);
        }
        for (int what : new int[] {5, 6, 7, 9, 10, 13}) {
            check.due("by acts: count(" + what + ")", drawn.count(what), acted.count(what));
        }
        for (int i = 0; i < 30; i++) {
            for (int what = 0; what < 3; what++) {
                check.due("by acts: log", drawn.log(i, what), acted.log(i, what));
            }
        }
        check.due("acts", drawn.count(14), 31);
        check.due("the purse", drawn.rule(3), 80);
    }

    private static void dayByActs(WhiskedDuchy acted, int draughty) {
        int cook = draw(3);
        int strokes = Math.min(draw(10) + 5, acted.cook(cook, 1) - acted.cook(cook, 2));
        if (strokes > 0) {
            acted.strokes(cook, strokes);
        }
        for (int i = 0; i < 5; i++) {
            acted.fold(draw(5));
        }
        if (draw(10) < draughty) {
            acted.door();
        }
        acted.days(1);
    }

    private static void gloryAtMost() {
        WhiskedDuchy duchy = Check.duchy("kw9;mv9n0;mv9n0;mv9n0;mv9n0;mv9n0;mv9n0;mv9n0");
        int glory = 0;
        for (int i = 0; i < 16; i++) {
            int more = duchy.years(60, i);
            check.due("glory grows", duchy.count(9) > glory || glory == 9999, true);
            glory = duchy.count(9);
            check.due("the day", more, 60 * (i + 1));
        }
        check.due("9,999 at most", glory, 9999);
        check.due("that is there", duchy.ahead(9999), 0);
    }

    private static void undone() {
        WhiskedDuchy duchy = Check.duchy("kw5;mn0;mn0");
        duchy.strokes(0, 3);
        duchy.fold(1);
        duchy.years(5, 99);
        check.due("acts", duchy.count(14), 7);
        for (int left = 6; left >= 2; left--) {
            check.due("undo", duchy.undo(), left);
        }
        check.due("as ahead of the years", duchy.count(6), 14);
        check.due("strokes", duchy.count(7), 3);
        check.due("who is in it", duchy.most(5), 2);
        check.due("the log", duchy.count(13), 0);
        check.due("the day", duchy.count(5), 0);
    }
}
