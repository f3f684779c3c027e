import java.util.function.Supplier;
import java.util.function.ToLongFunction;

/**
 * "What is refused answers as told and changes nothing but STATUS": each promise's words behind NONE (False,
 * HIDDEN, -2, NoSuchElementException), one by one; next to each bound and far off, with nothing told, with
 * one of each and with all places taken.
 */
public final class RefusedTest {
    private static final int NONE = WhiskedDuchy.NONE;
    private static final int HIDDEN = WhiskedDuchy.HIDDEN;
    private static final int NO_SUCH = 0;
    private static final int OUT_OF_BOUNDS = 1;
    private static final int ALREADY_SO = 2;
    private static final int TOO_LITTLE = 3;
    private static final int TOO_LATE = 4;
    private static final int[] FAR = {Integer.MIN_VALUE, -2, -1, 0, 1, 99, Integer.MAX_VALUE};

    private static final Check check = new Check();

    public static void main(String[] args) {
        feed();
        end();
        faultAndText();
        rule();
        cook();
        minister();
        law();
        strokes();
        fold();
        sugarAndDoor();
        hours();
        practise();
        yolk();
        give();
        days();
        draught();
        years();
        status();
        undo();
        log();
        behind();
        soonest();
        stop();
        best();
        byTurns();
        row();
        lastsAndHolds();
        seen();
        fits();
        probe();
        game();
        rests();
        odds();
        shares();
        most();
        ahead();
        imageAndBack();
        count();
        check.finish();
    }

    // ---- the states that calls are refused in ----

    private static WhiskedDuchy nothing() {
        return new WhiskedDuchy();
    }

    private static WhiskedDuchy smallest() {
        return Check.duchy("k;m");
    }

    private static WhiskedDuchy fullest() {
        return Check.duchy("s;k;kw5;k;ke40;m;mv9;mw9;m;mn0;ml0;m");
    }

    /** Something of all that a call could change: two cooks, three ministers, the first of them in it. */
    private static WhiskedDuchy busy() {
        WhiskedDuchy x = Check.duchy("sa3y2c1p60;kw5e12;kw3e30;mw4v5n10l2;mw2v3n5l1;mn40v9");
        Check.tell(x, 1, "y:w+1");
        Check.tell(x, 1, "y:9");
        x.law(1);
        x.draught(4);
        x.strokes(1, 3);
        x.fold(1);
        x.days(2);
        x.strokes(0, 2);
        x.image();
        x.sugar();
        x.practise(0);
        x.yolk();
        x.strokes(1, 2);
        x.fold(0);
        x.seen(1, 3, 4, true);
        x.fold(17);
        x.hours(0);
        Check.feed(x, "k;mw3");
        return x;
    }

    private static WhiskedDuchy onDay(int day) {
        WhiskedDuchy x = busy();
        for (int left = day - x.count(5); left > 0; left -= 60) {
            x.days(Math.min(60, left));
        }
        return x;
    }

    private static WhiskedDuchy withPurse(String text, int purse) {
        WhiskedDuchy x = Check.duchy(text);
        for (int left = purse - x.rule(3); left > 0; left -= 50) {
            x.give(Math.min(50, left));
        }
        return x;
    }

    // ---- what is compared ----

    private static void leaves(String call, Supplier<WhiskedDuchy> made, ToLongFunction<WhiskedDuchy> called, long want) {
        check.leaves(call, made, called, want);
    }

    private static void refused(String call, Supplier<WhiskedDuchy> made, ToLongFunction<WhiskedDuchy> called, int status) {
        check.refused(call, made, called, status);
    }

    // ---- texts ----

    private static WhiskedDuchy withTape(int size) {
        WhiskedDuchy x = busy();
        x.end(0);
        for (int left = size; left > 0; left -= 20) {
            Check.feed(x, " ".repeat(Math.min(20, left)));
        }
        return x;
    }

    private static void feed() {
        leaves("feed: more than 240, by one", () -> withTape(240), x -> x.feed(0, 0, 0, 0, 1), NONE);
        leaves("feed: more than 240, by the highest byte", () -> withTape(240), x -> x.feed(-1 << 24, 0, 0, 0, 0), NONE);
        leaves("feed: more than 240, by one of twenty", () -> withTape(221), x -> x.feed(-1, -1, -1, -1, -1), NONE);
        leaves("feed: more than 240, by one of two", () -> withTape(239), x -> x.feed(32, 0, 0, 32, 0), NONE);
        leaves("feed of nothing to a full tape", () -> withTape(240), x -> x.feed(0, 0, 0, 0, 0), 240);
        leaves("feed of nothing to an empty tape", RefusedTest::nothing, x -> x.feed(0, 0, 0, 0, 0), 0);
    }

    private static void end() {
        for (int n : Check.outside(0, 0)) {
            leaves("end(" + n + ") of an empty tape", RefusedTest::nothing, x -> x.end(n) ? 1 : 0, 0);
        }
        for (int n : Check.outside(0, 5)) {
            leaves("end(" + n + ") of five", RefusedTest::busy, x -> x.end(n) ? 1 : 0, 0);
        }
        for (int n : Check.outside(0, 240)) {
            leaves("end(" + n + ") of all 240", () -> withTape(240), x -> x.end(n) ? 1 : 0, 0);
        }
        leaves("end(5) of five", RefusedTest::busy, x -> x.end(5) ? 1 : 0, 1);
    }

    private static WhiskedDuchy withText(Supplier<WhiskedDuchy> made, String text) {
        WhiskedDuchy x = made.get();
        x.end(0);
        Check.feed(x, text);
        return x;
    }

    private static WhiskedDuchy fourLaws() {
        WhiskedDuchy x = busy();
        x.end(0);
        Check.tell(x, 1, "y:3");
        Check.tell(x, 1, "y:4");
        Check.feed(x, "y:5");
        return x;
    }

    private static void faultAndText() {
        for (int sort : Check.outside(0, 1)) {
            leaves("fault: no such sort " + sort, RefusedTest::busy, x -> x.fault(sort), -2);
            leaves("text: no such sort " + sort, RefusedTest::busy, x -> x.text(sort), NONE);
            leaves("text: no such sort " + sort + ", a law", () -> withText(RefusedTest::busy, "y:5"), x -> x.text(sort), NONE);
        }
        leaves("fault(0)", RefusedTest::busy, x -> x.fault(0), NONE);
        leaves("fault(1)", RefusedTest::busy, x -> x.fault(1), 0);
        leaves("text(0): a fault in nothing", RefusedTest::nothing, x -> x.text(0), NONE);
        leaves("text(1): a fault in nothing", RefusedTest::nothing, x -> x.text(1), NONE);
        leaves("text(0): a fault at the end", () -> withText(RefusedTest::busy, "k;m;m;"), x -> x.text(0), NONE);
        leaves("text(0): a law is no duchy", () -> withText(RefusedTest::busy, "y:5"), x -> x.text(0), NONE);
        leaves("text(1): a duchy is no law", RefusedTest::busy, x -> x.text(1), NONE);
        leaves("text(1): a fault at the end", () -> withText(RefusedTest::busy, "y:5;y:w+"), x -> x.text(1), NONE);
        leaves("text(1): there are four", RefusedTest::fourLaws, x -> x.text(1), NONE);
    }

    // ---- what was told ----

    private static void rule() {
        for (int what : FAR) {
            leaves("rule(" + what + "): no duchy", RefusedTest::nothing, x -> x.rule(what), NONE);
        }
        for (int what : Check.outside(0, 3)) {
            leaves("rule: no such what " + what, RefusedTest::busy, x -> x.rule(what), NONE);
        }
    }

    private static void cook() {
        leaves("cook: no duchy", RefusedTest::nothing, x -> x.cook(0, 0), NONE);
        for (int cook : Check.outside(0, 0)) {
            leaves("cook: no such cook " + cook + " of one", RefusedTest::smallest, x -> x.cook(cook, 0), NONE);
        }
        for (int cook : Check.outside(0, 3)) {
            leaves("cook: no such cook " + cook + " of four", RefusedTest::fullest, x -> x.cook(cook, 1), NONE);
        }
        for (int what : Check.outside(0, 2)) {
            leaves("cook: no such what " + what, RefusedTest::busy, x -> x.cook(1, what), NONE);
        }
    }

    private static void minister() {
        leaves("minister: no duchy", RefusedTest::nothing, x -> Whole.ministerOf(x, 0, 0), -77);
        for (int minister : Check.outside(0, 0)) {
            leaves("minister " + minister + " of one", RefusedTest::smallest, x -> Whole.ministerOf(x, minister, 0), -77);
        }
        for (int minister : Check.outside(0, 6)) {
            leaves("minister " + minister + " of seven", RefusedTest::fullest, x -> Whole.ministerOf(x, minister, 4), -77);
        }
        for (int what : Check.outside(0, 4)) {
            leaves("minister: no such what " + what, RefusedTest::busy, x -> Whole.ministerOf(x, 2, what), -77);
        }
    }

    private static void law() {
        for (int law : Check.outside(NONE, NONE)) {
            leaves("law(" + law + ") of none", RefusedTest::smallest, x -> x.law(law) ? 1 : 0, 0);
            leaves("law(" + law + ") of none, no duchy", RefusedTest::nothing, x -> x.law(law) ? 1 : 0, 0);
        }
        for (int law : Check.outside(NONE, 1)) {
            leaves("law(" + law + ") of two", RefusedTest::busy, x -> x.law(law) ? 1 : 0, 0);
        }
        for (int law : Check.outside(NONE, 3)) {
            leaves("law(" + law + ") of four", RefusedTest::fourLaws, x -> x.law(law) ? 1 : 0, 0);
        }
    }

    // ---- acts ----

    private static void strokes() {
        for (int n : FAR) {
            refused("strokes(0, " + n + "): no duchy", RefusedTest::nothing, x -> x.strokes(0, n), NO_SUCH);
            refused("strokes(2, " + n + "): no such cook first", RefusedTest::busy, x -> x.strokes(2, n), NO_SUCH);
        }
        for (int cook : Check.outside(0, 3)) {
            refused("strokes(" + cook + ", 1)", RefusedTest::fullest, x -> x.strokes(cook, 1), NO_SUCH);
        }
        for (int n : Check.outside(1, 40)) {
            refused("strokes(1, " + n + "): out of bounds", RefusedTest::busy, x -> x.strokes(1, n), OUT_OF_BOUNDS);
        }
        refused("strokes: out of bounds, and too tired", RefusedTest::tiredOut, x -> x.strokes(0, 41), OUT_OF_BOUNDS);
        refused("strokes: out of bounds, and too tired", RefusedTest::tiredOut, x -> x.strokes(0, 0), OUT_OF_BOUNDS);
        refused("strokes: too tired for one", RefusedTest::tiredOut, x -> x.strokes(0, 1), TOO_LITTLE);
        refused("strokes: too tired for the last of them", RefusedTest::busy, x -> x.strokes(0, 11), TOO_LITTLE);
        refused("strokes: too tired for many", RefusedTest::busy, x -> x.strokes(0, 40), TOO_LITTLE);
    }

    private static WhiskedDuchy tiredOut() {
        WhiskedDuchy x = busy();
        x.strokes(0, 10);
        return x;
    }

    private static void fold() {
        for (int minister : FAR) {
            refused("fold(" + minister + "): no duchy", RefusedTest::nothing, x -> x.fold(minister), NO_SUCH);
        }
        for (int minister : Check.outside(0, 0)) {
            refused("fold(" + minister + ") of one", RefusedTest::smallest, x -> x.fold(minister), NO_SUCH);
        }
        for (int minister : Check.outside(0, 6)) {
            refused("fold(" + minister + ") of seven", RefusedTest::fullest, x -> x.fold(minister), NO_SUCH);
        }
        refused("fold: he is in it", RefusedTest::busy, x -> x.fold(0), ALREADY_SO);
        Supplier<WhiskedDuchy> sunk = () -> {
            WhiskedDuchy x = busy();
            x.door();
            x.door();
            return x;
        };
        refused("fold: he is in it, and it does not stand so", sunk, x -> x.fold(0), ALREADY_SO);
        refused("fold: it does not stand so", RefusedTest::busy, x -> x.fold(2), TOO_LITTLE);
        refused("fold: one short", () -> Check.standing("ke40;mn40", 39), x -> x.fold(0), TOO_LITTLE);
        refused("fold: one short of 1", () -> Check.standing("ke40;mn1", 0), x -> x.fold(0), TOO_LITTLE);
    }

    private static WhiskedDuchy sugared(int purse) {
        WhiskedDuchy x = withPurse("sp0;k;m", 18 + purse);
        for (int i = 0; i < 9; i++) {
            x.sugar();
        }
        return x;
    }

    private static void sugarAndDoor() {
        refused("sugar: no duchy", RefusedTest::nothing, x -> x.sugar(), NO_SUCH);
        refused("sugar: nine", () -> sugared(2), x -> x.sugar(), ALREADY_SO);
        refused("sugar: nine, and too little", () -> sugared(1), x -> x.sugar(), ALREADY_SO);
        refused("sugar: too little, one", () -> withPurse("sp1;k;m", 1), x -> x.sugar(), TOO_LITTLE);
        refused("sugar: too little, nothing", () -> withPurse("sp0;k;m", 0), x -> x.sugar(), TOO_LITTLE);
        refused("door: no duchy", RefusedTest::nothing, x -> x.door(), NO_SUCH);
    }

    private static void hours() {
        for (int n : FAR) {
            refused("hours(" + n + "): no duchy", RefusedTest::nothing, x -> x.hours(n), NO_SUCH);
        }
        for (int n : Check.outside(1, 20)) {
            refused("hours(" + n + "): out of bounds", RefusedTest::busy, x -> x.hours(n), OUT_OF_BOUNDS);
        }
    }

    private static void practise() {
        for (int cook : FAR) {
            refused("practise(" + cook + "): no duchy", RefusedTest::nothing, x -> x.practise(cook), NO_SUCH);
        }
        for (int cook : Check.outside(0, 1)) {
            refused("practise(" + cook + ") of two", RefusedTest::busy, x -> x.practise(cook), NO_SUCH);
        }
        for (int cook : Check.outside(0, 3)) {
            refused("practise(" + cook + ") of four", RefusedTest::fullest, x -> x.practise(cook), NO_SUCH);
        }
        refused("practise: nine", () -> Check.duchy("k;kw9;m"), x -> x.practise(1), ALREADY_SO);
        Supplier<WhiskedDuchy> practised = () -> {
            WhiskedDuchy x = Check.duchy("kw8;m");
            x.practise(0);
            return x;
        };
        refused("practise: nine by a lesson", practised, x -> x.practise(0), ALREADY_SO);
        refused("practise: nine, and too little", () -> Check.duchy("sp3;kw9;m"), x -> x.practise(0), ALREADY_SO);
        refused("practise: too little, by one", () -> Check.duchy("sp3;kw8;m"), x -> x.practise(0), TOO_LITTLE);
        refused("practise: too little, nothing", () -> Check.duchy("sp0;kw8;m"), x -> x.practise(0), TOO_LITTLE);
    }

    private static void yolk() {
        refused("yolk: no duchy", RefusedTest::nothing, x -> x.yolk(), NO_SUCH);
        refused("yolk: none", RefusedTest::smallest, x -> x.yolk(), ALREADY_SO);
        Supplier<WhiskedDuchy> last = () -> {
            WhiskedDuchy x = Check.duchy("sy1p5;k;m");
            x.yolk();
            return x;
        };
        refused("yolk: none any more, and too little", last, x -> x.yolk(), ALREADY_SO);
        refused("yolk: too little, by one", () -> Check.duchy("sy9p2;k;m"), x -> x.yolk(), TOO_LITTLE);
        refused("yolk: too little, nothing", () -> Check.duchy("sy1p0;k;m"), x -> x.yolk(), TOO_LITTLE);
    }

    private static void give() {
        for (int n : FAR) {
            refused("give(" + n + "): no duchy", RefusedTest::nothing, x -> x.give(n), NO_SUCH);
        }
        for (int n : Check.outside(1, 50)) {
            refused("give(" + n + "): out of bounds", RefusedTest::busy, x -> x.give(n), OUT_OF_BOUNDS);
        }
        refused("give: above 999, by one of 50", () -> withPurse("k;m", 950), x -> x.give(50), OUT_OF_BOUNDS);
        refused("give: above 999, by one of two", () -> withPurse("k;m", 998), x -> x.give(2), OUT_OF_BOUNDS);
        refused("give: above 999, by one", () -> withPurse("k;m", 999), x -> x.give(1), OUT_OF_BOUNDS);
        refused("give: above 999, by 50", () -> withPurse("k;m", 999), x -> x.give(50), OUT_OF_BOUNDS);
    }

    private static void days() {
        for (int n : FAR) {
            refused("days(" + n + "): no duchy", RefusedTest::nothing, x -> x.days(n), NO_SUCH);
        }
        for (int n : Check.outside(1, 60)) {
            refused("days(" + n + "): out of bounds", RefusedTest::busy, x -> x.days(n), OUT_OF_BOUNDS);
            refused("days(" + n + ") on day 999: out of bounds", () -> onDay(999), x -> x.days(n), OUT_OF_BOUNDS);
        }
        refused("days: beyond 999, by one of 60", () -> onDay(940), x -> x.days(60), TOO_LATE);
        refused("days: beyond 999, by one of two", () -> onDay(998), x -> x.days(2), TOO_LATE);
        refused("days: beyond 999, by one", () -> onDay(999), x -> x.days(1), TOO_LATE);
        refused("days: beyond 999, by 60", () -> onDay(999), x -> x.days(60), TOO_LATE);
    }

    private static void draught() {
        for (int v : Check.outside(0, 9)) {
            leaves("draught(" + v + "): out of bounds", RefusedTest::busy, x -> x.draught(v) ? 1 : 0, 0);
        }
        leaves("draught: it is so at first", RefusedTest::nothing, x -> x.draught(2) ? 1 : 0, 0);
        leaves("draught: it is so", RefusedTest::busy, x -> x.draught(4) ? 1 : 0, 0);
        for (int v : new int[] {0, 9}) {
            Supplier<WhiskedDuchy> so = () -> {
                WhiskedDuchy x = busy();
                x.draught(v);
                return x;
            };
            leaves("draught: it is so", so, x -> x.draught(v) ? 1 : 0, 0);
        }
    }

    private static void years() {
        for (int n : FAR) {
            leaves("years(" + n + "): no duchy", RefusedTest::nothing, x -> x.years(n, 7), NONE);
        }
        for (int n : Check.outside(1, 60)) {
            leaves("years(" + n + "): out of bounds", RefusedTest::busy, x -> x.years(n, 7), NONE);
            leaves("years(" + n + ") on day 999", () -> onDay(999), x -> x.years(n, 7), NONE);
        }
        leaves("years: beyond 999, by one of 60", () -> onDay(940), x -> x.years(60, 7), NONE);
        leaves("years: beyond 999, by one of two", () -> onDay(998), x -> x.years(2, 7), NONE);
        leaves("years: beyond 999, by one", () -> onDay(999), x -> x.years(1, 7), NONE);
    }

    private static void status() {
        for (int what : Check.outside(0, 4)) {
            leaves("status(" + what + ")", RefusedTest::busy, x -> x.status(what), NONE);
            leaves("status(" + what + "), no duchy", RefusedTest::nothing, x -> x.status(what), NONE);
        }
        leaves("status(0)", RefusedTest::busy, x -> x.status(NO_SUCH), 1);
        leaves("status(1)", RefusedTest::busy, x -> x.status(OUT_OF_BOUNDS), 1);
    }

    private static void undo() {
        leaves("undo: no duchy", RefusedTest::nothing, x -> x.undo(), NONE);
        leaves("undo: no act yet", RefusedTest::smallest, x -> x.undo(), NONE);
        Supplier<WhiskedDuchy> undone = () -> {
            WhiskedDuchy x = busy();
            for (int i = x.count(14); i > 0; i--) {
                x.undo();
            }
            return x;
        };
        leaves("undo: none any more", undone, x -> x.undo(), NONE);
        Supplier<WhiskedDuchy> back = () -> {
            WhiskedDuchy x = busy();
            x.back();
            return x;
        };
        leaves("undo: none behind back", back, x -> x.undo(), NONE);
    }

    private static void log() {
        leaves("log: no duchy", RefusedTest::nothing, x -> x.log(0, 0), NONE);
        for (int i : FAR) {
            leaves("log(" + i + ", 0): no day yet", RefusedTest::smallest, x -> x.log(i, 0), NONE);
        }
        for (int i : Check.outside(0, 1)) {
            leaves("log(" + i + ", 2) of two", RefusedTest::busy, x -> x.log(i, 2), NONE);
        }
        for (int i : Check.outside(0, 59)) {
            leaves("log(" + i + ", 2) of 60", () -> onDay(61), x -> x.log(i, 2), NONE);
        }
        for (int what : Check.outside(0, 2)) {
            leaves("log(0, " + what + ")", RefusedTest::busy, x -> x.log(0, what), NONE);
            leaves("log(1, " + what + ")", RefusedTest::busy, x -> x.log(1, what), NONE);
        }
    }

    // ---- apart ----

    private static void behind() {
        leaves("behind: no duchy", RefusedTest::nothing, x -> x.behind(0, 0), NONE);
        for (int cook : Check.outside(0, 1)) {
            leaves("behind(" + cook + ", 1) of two", RefusedTest::busy, x -> x.behind(cook, 1), NONE);
        }
        for (int cook : Check.outside(0, 3)) {
            leaves("behind(" + cook + ", 0) of four", RefusedTest::fullest, x -> x.behind(cook, 0), NONE);
        }
        for (int n : Check.outside(0, 40)) {
            leaves("behind(1, " + n + ")", RefusedTest::busy, x -> x.behind(1, n), NONE);
        }
    }

    private static void soonest() {
        leaves("soonest: no duchy", RefusedTest::nothing, x -> x.soonest(0, 0), NONE);
        for (int cook : Check.outside(0, 1)) {
            leaves("soonest(" + cook + ", 0) of two", RefusedTest::busy, x -> x.soonest(cook, 0), NONE);
        }
        for (int cook : Check.outside(0, 3)) {
            leaves("soonest(" + cook + ", 0) of four", RefusedTest::fullest, x -> x.soonest(cook, 0), NONE);
        }
        for (int v : Check.outside(0, 99)) {
            leaves("soonest(1, " + v + ")", RefusedTest::busy, x -> x.soonest(1, v), NONE);
        }
        leaves("soonest: by none", () -> Check.duchy("kw5e9;m"), x -> x.soonest(0, 46), NONE);
    }

    private static void stop() {
        leaves("stop: no duchy", RefusedTest::nothing, x -> x.stop(0, 0), NONE);
        for (int cook : Check.outside(0, 1)) {
            leaves("stop(" + cook + ", 0) of two", RefusedTest::busy, x -> x.stop(cook, 0), NONE);
        }
        for (int cook : Check.outside(0, 3)) {
            leaves("stop(" + cook + ", 1) of four", RefusedTest::fullest, x -> x.stop(cook, 1), NONE);
        }
        for (int what : Check.outside(0, 1)) {
            leaves("stop(0, " + what + ")", RefusedTest::busy, x -> x.stop(0, what), NONE);
        }
    }

    private static void best() {
        leaves("best: no duchy", RefusedTest::nothing, x -> x.best(0), NONE);
        for (int v : Check.outside(0, 99)) {
            leaves("best(" + v + ")", RefusedTest::busy, x -> x.best(v), NONE);
        }
        leaves("best: by none", () -> Check.duchy("kw5e9;kw9e5;m"), x -> x.best(46), NONE);
    }

    private static void byTurns() {
        leaves("byTurns: no duchy", RefusedTest::nothing, x -> x.byTurns(0, 1, 0), NONE);
        leaves("byTurns: there is one", RefusedTest::smallest, x -> x.byTurns(0, 1, 0), NONE);
        for (int cook : Check.outside(0, 1)) {
            leaves("byTurns(" + cook + ", 1, 0)", RefusedTest::busy, x -> x.byTurns(cook, 1, 0), NONE);
            leaves("byTurns(1, " + cook + ", 0)", RefusedTest::busy, x -> x.byTurns(1, cook, 0), NONE);
        }
        for (int cook : Check.outside(0, 3)) {
            leaves("byTurns(" + cook + ", 3, 0)", RefusedTest::fullest, x -> x.byTurns(cook, 3, 0), NONE);
            leaves("byTurns(3, " + cook + ", 0)", RefusedTest::fullest, x -> x.byTurns(3, cook, 0), NONE);
        }
        leaves("byTurns: alike", RefusedTest::busy, x -> x.byTurns(1, 1, 0), NONE);
        for (int v : Check.outside(0, 99)) {
            leaves("byTurns(0, 1, " + v + ")", RefusedTest::busy, x -> x.byTurns(0, 1, v), NONE);
        }
        leaves("byTurns: by none", () -> Check.duchy("kw5e3;kw3e2;m"), x -> x.byTurns(0, 1, 22), NONE);
    }

    private static void row() {
        for (int what : FAR) {
            leaves("row(" + what + "): no duchy", RefusedTest::nothing, x -> x.row(what), NONE);
        }
        for (int what : Check.outside(0, 2)) {
            leaves("row(" + what + ")", RefusedTest::busy, x -> x.row(what), NONE);
        }
        leaves("row: nobody", RefusedTest::smallest, x -> x.row(0), NONE);
        leaves("row: nobody is worth nothing", RefusedTest::smallest, x -> x.row(1), 0);
    }

    private static void lastsAndHolds() {
        leaves("lasts: no duchy", RefusedTest::nothing, x -> x.lasts(), NONE);
        leaves("lasts: not within 60", () -> Check.standing("sa0;ke40;m", 61), x -> x.lasts(), NONE);
        for (int n : FAR) {
            leaves("holds(" + n + "): no duchy", RefusedTest::nothing, x -> x.holds(n), NONE);
        }
        for (int n : Check.outside(0, 20)) {
            leaves("holds(" + n + ")", RefusedTest::busy, x -> x.holds(n), NONE);
        }
        Supplier<WhiskedDuchy> heavy = () -> {
            WhiskedDuchy x = Check.duchy("sa9;k;mw8n0");
            x.fold(0);
            return x;
        };
        leaves("holds: by none", heavy, x -> x.holds(20), NONE);
    }

    // ---- guesses ----

    private static WhiskedDuchy tenSeen() {
        WhiskedDuchy x = busy();
        for (int i = x.count(12); i < 10; i++) {
            x.seen(0, i, i, true);
        }
        return x;
    }

    private static void seen() {
        leaves("seen: no duchy", RefusedTest::nothing, x -> x.seen(0, 1, 0, true), NONE);
        for (int cook : Check.outside(0, 1)) {
            leaves("seen(" + cook + ", ..) of two", RefusedTest::busy, x -> x.seen(cook, 1, 99, true), NONE);
        }
        for (int cook : Check.outside(0, 3)) {
            leaves("seen(" + cook + ", ..) of four", RefusedTest::fullest, x -> x.seen(cook, 1, 99, true), NONE);
        }
        for (int n : Check.outside(1, 40)) {
            leaves("seen(1, " + n + ", ..)", RefusedTest::busy, x -> x.seen(1, n, 1, false), NONE);
        }
        for (int v : Check.outside(0, 99)) {
            leaves("seen(1, 1, " + v + ", ..)", RefusedTest::busy, x -> x.seen(1, 1, v, true), NONE);
        }
        leaves("seen: there are ten", RefusedTest::tenSeen, x -> x.seen(0, 1, 99, true), NONE);
    }

    private static void fits() {
        for (int i : FAR) {
            leaves("fits(" + i + "): no duchy", RefusedTest::nothing, x -> x.fits(i), NONE);
        }
        for (int i : Check.outside(NONE, 9)) {
            leaves("fits(" + i + ") of ten", RefusedTest::smallest, x -> x.fits(i), NONE);
        }
        Supplier<WhiskedDuchy> noneFits = () -> {
            WhiskedDuchy x = smallest();
            x.seen(0, 1, 0, false);
            return x;
        };
        for (int i : Check.outside(NONE, NONE)) {
            leaves("fits(" + i + ") of none", noneFits, x -> x.fits(i), NONE);
        }
        leaves("how many fit: none", noneFits, x -> x.fits(NONE), 0);
        leaves("probe: nothing fits", noneFits, x -> x.probe(0, 0), NONE);
    }

    private static void probe() {
        leaves("probe: no duchy", RefusedTest::nothing, x -> x.probe(0, 0), NONE);
        for (int cook : Check.outside(0, 1)) {
            leaves("probe(" + cook + ", 1) of two", RefusedTest::busy, x -> x.probe(cook, 1), NONE);
        }
        for (int cook : Check.outside(0, 3)) {
            leaves("probe(" + cook + ", 1) of four", RefusedTest::fullest, x -> x.probe(cook, 1), NONE);
        }
        for (int v : Check.outside(0, 99)) {
            leaves("probe(1, " + v + ")", RefusedTest::smallest, x -> x.probe(0, v), NONE);
        }
    }

    private static void game() {
        leaves("game: no duchy", RefusedTest::nothing, x -> x.game(0, 1, 0, 0, 0), HIDDEN);
        leaves("game: there is one", RefusedTest::smallest, x -> x.game(0, 1, 0, 0, 0), HIDDEN);
        for (int cook : Check.outside(0, 1)) {
            leaves("game(" + cook + ", 1, ..)", RefusedTest::busy, x -> x.game(cook, 1, 1, 1, 0), HIDDEN);
            leaves("game(1, " + cook + ", ..)", RefusedTest::busy, x -> x.game(1, cook, 1, 1, 0), HIDDEN);
        }
        for (int cook : Check.outside(0, 3)) {
            leaves("game(" + cook + ", 3, ..)", RefusedTest::fullest, x -> x.game(cook, 3, 1, 1, 1), HIDDEN);
            leaves("game(3, " + cook + ", ..)", RefusedTest::fullest, x -> x.game(3, cook, 1, 1, 1), HIDDEN);
        }
        leaves("game: alike", RefusedTest::busy, x -> x.game(1, 1, 1, 1, 0), HIDDEN);
        for (int many : Check.outside(0, 5)) {
            leaves("game(0, 1, " + many + ", 0, 0)", RefusedTest::busy, x -> x.game(0, 1, many, 0, 0), HIDDEN);
            leaves("game(0, 1, 0, " + many + ", 0)", RefusedTest::busy, x -> x.game(0, 1, 0, many, 0), HIDDEN);
        }
        for (int what : Check.outside(0, 1)) {
            leaves("game(0, 1, 1, 1, " + what + ")", RefusedTest::busy, x -> x.game(0, 1, 1, 1, what), HIDDEN);
        }
    }

    private static void rests() {
        leaves("rests: no duchy", RefusedTest::nothing, x -> x.rests(0, 1, NONE), NONE);
        leaves("rests: there is one", RefusedTest::smallest, x -> x.rests(0, 1, NONE), NONE);
        for (int cook : Check.outside(0, 1)) {
            leaves("rests(" + cook + ", 1, 0)", RefusedTest::busy, x -> x.rests(cook, 1, 0), NONE);
            leaves("rests(1, " + cook + ", 0)", RefusedTest::busy, x -> x.rests(1, cook, 0), NONE);
        }
        for (int cook : Check.outside(0, 3)) {
            leaves("rests(" + cook + ", 3, 0)", RefusedTest::fullest, x -> x.rests(cook, 3, 0), NONE);
            leaves("rests(3, " + cook + ", 0)", RefusedTest::fullest, x -> x.rests(3, cook, 0), NONE);
        }
        leaves("rests: alike", RefusedTest::busy, x -> x.rests(1, 1, NONE), NONE);
        Supplier<WhiskedDuchy> six = () -> Check.duchy("kw5;kw3;m");
        for (int i : Check.outside(NONE, 5)) {
            leaves("rests(0, 1, " + i + ") of six", six, x -> x.rests(0, 1, i), NONE);
        }
    }

    private static void odds() {
        leaves("odds: no duchy", RefusedTest::nothing, x -> x.odds(0, 0, 0), NONE);
        for (int n : Check.outside(0, 8)) {
            leaves("odds(" + n + ", 50, 0)", RefusedTest::busy, x -> x.odds(n, 50, 0), NONE);
        }
        for (int chance : Check.outside(0, 100)) {
            leaves("odds(1, " + chance + ", 0)", RefusedTest::busy, x -> x.odds(1, chance, 0), NONE);
        }
        for (int v : Check.outside(0, 99)) {
            leaves("odds(1, 50, " + v + ")", RefusedTest::busy, x -> x.odds(1, 50, v), NONE);
        }
    }

    private static void shares() {
        leaves("shares: no duchy", RefusedTest::nothing, x -> x.shares(0, 0), NONE);
        for (int cook : Check.outside(0, 1)) {
            leaves("shares(" + cook + ", 10) of two", RefusedTest::busy, x -> x.shares(cook, 10), NONE);
        }
        for (int cook : Check.outside(0, 3)) {
            leaves("shares(" + cook + ", 10) of four", RefusedTest::fullest, x -> x.shares(cook, 10), NONE);
        }
        for (int c : Check.outside(0, 999)) {
            leaves("shares(0, " + c + ")", RefusedTest::busy, x -> x.shares(0, c), NONE);
        }
    }

    private static void most() {
        for (int what = 0; what < 10; what++) {
            int asked = what;
            leaves("most(" + what + "): no duchy", RefusedTest::nothing, x -> x.most(asked), NONE);
        }
        for (int what : Check.outside(0, 9)) {
            leaves("most(" + what + ")", RefusedTest::busy, x -> x.most(what), NONE);
        }
    }

    private static void ahead() {
        for (int n : FAR) {
            leaves("ahead(" + n + "): no duchy", RefusedTest::nothing, x -> x.ahead(n), NONE);
        }
        for (int n : Check.outside(1, 9999)) {
            leaves("ahead(" + n + ")", RefusedTest::busy, x -> x.ahead(n), NONE);
        }
        leaves("ahead: not within 999, by nobody", RefusedTest::smallest, x -> x.ahead(1), NONE);
    }

    // ---- images ----

    private static void imageAndBack() {
        leaves("image: no duchy", RefusedTest::nothing, x -> x.image(), NONE);
        leaves("back: no duchy", RefusedTest::nothing, x -> x.back(), NONE);
        leaves("back: no image", RefusedTest::smallest, x -> x.back(), NONE);
        Supplier<WhiskedDuchy> another = () -> {
            WhiskedDuchy x = busy();
            x.text(0);
            x.strokes(0, 3);
            return x;
        };
        leaves("back: no image of this duchy", another, x -> x.back(), NONE);
    }

    private static void count() {
        for (int what : Check.outside(0, 14)) {
            leaves("count(" + what + ")", RefusedTest::busy, x -> x.count(what), HIDDEN);
            leaves("count(" + what + "), no duchy", RefusedTest::nothing, x -> x.count(what), HIDDEN);
        }
    }
}
