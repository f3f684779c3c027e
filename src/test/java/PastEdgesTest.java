import java.util.ArrayList;
import java.util.List;
import java.util.function.Consumer;

/** The bounds of acts undone, the log, STATUS and images (part 2 and 4 of the Terms, promises 5, 21 to 23, 41 to 43), sentence by sentence. */
public final class PastEdgesTest {
    private static final int NONE = WhiskedDuchy.NONE;
    private static final Check check = new Check();

    public static void main(String[] args) {
        eachActIsUndone();
        whatIsNoAct();
        latest40();
        hoursAndDaysOneByOne();
        undoneDaysTakeTheirLog();
        latest60OfTheLog();
        logBehindUndoneDays();
        statusByReason();
        firstReasonCounts();
        statusIsNotUndone();
        imageKeeps();
        imageInsteadOfTheOneAhead();
        imageOnTheLastDay();
        logOfAnImage();
        anotherDuchy();
        anotherSmallerDuchy();
        countsOfNothing();
        check.finish();
    }

    private static List<String> stateOf(WhiskedDuchy x) {
        List<String> state = new ArrayList<>();
        for (int what = 0; what < 14; what++) {
            state.add("count(" + what + ") " + x.count(what));
        }
        for (int what = 0; what < 4; what++) {
            state.add("rule(" + what + ") " + x.rule(what));
        }
        for (int cook = 0; cook < 4; cook++) {
            state.add("cook " + cook + ": " + x.cook(cook, 0) + ", " + x.cook(cook, 2));
        }
        for (int what = 0; what < 3; what++) {
            state.add("log(0, " + what + ") " + x.log(0, what));
        }
        state.add("in it " + x.most(5));
        return state;
    }

    private static void alike(String what, List<String> got, List<String> want) {
        for (int i = 0; i < want.size(); i++) {
            check.due(what + ": " + got.get(i) + ", due is " + want.get(i), got.get(i).equals(want.get(i)), true);
        }
    }

    private static WhiskedDuchy prepared() {
        WhiskedDuchy x = Check.standing("sa4y3p50;ke40;kw3;mn0l2v4;mn0l1v5w7;mn9", 30);
        x.fold(0);
        x.sugar();
        return x;
    }

    private static void undone(String act, int acts, Consumer<WhiskedDuchy> done) {
        WhiskedDuchy x = prepared();
        List<String> ahead = stateOf(x);
        int could = x.count(14);
        done.accept(x);
        check.due(act + ": how many acts", x.count(14), Math.min(40, could + acts));
        for (int i = acts - 1; i >= 0; i--) {
            check.due(act + ": undo", x.undo(), could + i);
        }
        alike(act + " undone", stateOf(x), ahead);
    }

    private static void eachActIsUndone() {
        undone("a stroke", 1, x -> x.strokes(1, 1));
        undone("so many strokes at once", 1, x -> x.strokes(0, 20));
        undone("folding", 1, x -> x.fold(1));
        undone("sugar", 1, x -> x.sugar());
        undone("a door", 1, x -> x.door());
        undone("an hour", 1, x -> x.hours(1));
        undone("twenty hours", 20, x -> x.hours(20));
        undone("hours until it falls", 21, x -> {
            x.fold(1);
            x.hours(10);
            check.due("fallen", x.count(10), 1);
            x.hours(10);
        });
        undone("doors until it falls", 6, x -> {
            for (int i = 0; i < 6; i++) {
                x.door();
            }
            check.due("fallen", x.count(10), 1);
        });
        undone("a lesson", 1, x -> x.practise(1));
        undone("yolk", 1, x -> x.yolk());
        undone("a gift", 1, x -> x.give(50));
        undone("a day", 1, x -> x.days(1));
        undone("thirty days", 30, x -> x.days(30));
        undone("a drawn day", 1, x -> x.years(1, 9));
        undone("thirty drawn days", 30, x -> x.years(30, 9));
    }

    private static void whatIsNoAct() {
        WhiskedDuchy x = prepared();
        int could = x.count(14);
        x.law(1);
        x.draught(7);
        x.seen(0, 1, 1, true);
        x.image();
        x.fold(0);
        x.strokes(0, 41);
        x.years(0, 1);
        Check.tell(x, 1, "y:4");
        check.due("none of these is an act", x.count(14), could);
        x.undo();
        check.due("the law stays", x.count(4), 1);
        check.due("draught stays", x.count(11), 7);
        check.due("what was seen stays", x.count(12), 1);
        check.due("laws stay", x.count(2), 3);
        check.due("the sugar is undone", x.count(8), 0);
    }

    private static void latest40() {
        for (int acts = 38; acts <= 43; acts++) {
            WhiskedDuchy x = Check.duchy("sp0;k;m");
            for (int i = 1; i <= acts; i++) {
                check.due("an act", x.give(1), i);
                check.due("how many can be undone", x.count(14), Math.min(40, i));
            }
            int could = Math.min(40, acts);
            for (int i = 1; i <= could; i++) {
                check.due("undo of " + acts, x.undo(), could - i);
                check.due("one by one", x.rule(3), acts - i);
            }
            check.due("none of " + acts, x.undo(), NONE);
            check.due("so it stays", x.rule(3), acts - could);
            check.due("an act more", x.give(5), acts - could + 5);
            check.due("undone", x.undo(), 0);
            check.due("as it was", x.rule(3), acts - could);
        }
    }

    private static void hoursAndDaysOneByOne() {
        WhiskedDuchy x = Check.standing("sa0;ke40;m", 60);
        x.hours(20);
        x.hours(20);
        x.hours(5);
        check.due("40 of 45 hours", x.count(14), 40);
        for (int i = 39; i >= 0; i--) {
            check.due("undo", x.undo(), i);
            check.due("it stands", x.count(6), 15 + 40 - i);
        }
        check.due("none", x.undo(), NONE);
        check.due("the first five stay", x.count(6), 55);
        x = Check.duchy("k;m");
        x.days(60);
        check.due("40 of 60 days", x.count(14), 40);
        for (int i = 39; i >= 0; i--) {
            check.due("undo", x.undo(), i);
            check.due("the day", x.count(5), 20 + i);
        }
        check.due("none", x.undo(), NONE);
        x = Check.duchy("k;m");
        x.years(60, 4);
        check.due("40 of 60 drawn days", x.count(14), 40);
        for (int i = 39; i >= 0; i--) {
            check.due("undo", x.undo(), i);
            check.due("the log", x.count(13), 20 + i);
        }
        check.due("none", x.undo(), NONE);
    }

    private static void undoneDaysTakeTheirLog() {
        WhiskedDuchy x = Check.duchy("kw5;m");
        for (int i = 1; i <= 3; i++) {
            x.strokes(0, i);
            x.days(1);
        }
        check.due("three", x.count(13), 3);
        check.due("the latest", x.log(0, 2), 3);
        x.undo();
        check.due("two", x.count(13), 2);
        check.due("the latest", x.log(0, 2), 2);
        check.due("no third", x.log(2, 2), NONE);
        x.strokes(0, 4);
        x.days(1);
        check.due("another third", x.log(0, 2), 7);
        check.due("ahead of it", x.log(1, 2), 2);
    }

    // Day d (1, 2 ..) has d % 13 + 1 strokes.
    private static WhiskedDuchy dayByDay(int days) {
        WhiskedDuchy x = Check.duchy("kw1;m");
        for (int day = 1; day <= days; day++) {
            x.strokes(0, day % 13 + 1);
            x.days(1);
        }
        return x;
    }

    private static void logIs(String what, WhiskedDuchy x, int latest) {
        int size = Math.min(60, latest);
        check.due(what + ": how long", x.count(13), size);
        for (int i = 0; i < size; i++) {
            check.due(what + ": log(" + i + ", 2)", x.log(i, 2), (latest - i) % 13 + 1);
        }
        check.due(what + ": no more", x.log(size, 2), NONE);
        check.due(what + ": none behind the latest", x.log(-1, 2), NONE);
    }

    private static void latest60OfTheLog() {
        for (int days : new int[] {0, 1, 2, 59, 60, 61, 62, 119, 120, 121}) {
            logIs(days + " days", dayByDay(days), days);
        }
    }

    private static void logBehindUndoneDays() {
        for (int days : new int[] {40, 60, 61, 79, 80, 81, 99, 100, 101, 130}) {
            WhiskedDuchy x = dayByDay(days);
            x.days(20);
            x.years(20, 5);
            for (int i = 0; i < 40; i++) {
                x.undo();
            }
            check.due("the day", x.count(5), days);
            check.due("none any more", x.undo(), NONE);
            logIs(days + " days, and 40 undone", x, days);
        }
    }

    // ---- STATUS ----

    private static void statusIs(String what, WhiskedDuchy x, int... want) {
        for (int why = 0; why < 5; why++) {
            check.due(what + ": status(" + why + ")", x.status(why), want[why]);
        }
    }

    private static void statusByReason() {
        WhiskedDuchy x = new WhiskedDuchy();
        statusIs("new", x, 0, 0, 0, 0, 0);
        x.strokes(0, 1);
        x.fold(0);
        x.sugar();
        x.door();
        x.hours(1);
        x.practise(0);
        x.yolk();
        x.give(1);
        x.days(1);
        statusIs("no duchy", x, 9, 0, 0, 0, 0);
        x.years(1, 1);
        x.undo();
        x.image();
        x.back();
        x.seen(0, 1, 1, true);
        x.draught(77);
        x.law(77);
        x.text(0);
        x.feed(0, 0, 0, 0, 0);
        x.behind(0, 1);
        x.rule(0);
        statusIs("others count for none", x, 9, 0, 0, 0, 0);
        Check.tell(x, 0, "sp1y1;kw9e1;kw8;mn0;mn1");
        statusIs("it stays with another duchy", x, 9, 0, 0, 0, 0);
        x.strokes(2, 1);
        x.fold(2);
        x.practise(2);
        statusIs("no such one", x, 12, 0, 0, 0, 0);
        x.strokes(0, 0);
        x.hours(21);
        x.give(51);
        x.days(61);
        statusIs("out of bounds", x, 12, 4, 0, 0, 0);
        x.fold(0);
        x.fold(0);
        x.practise(0);
        statusIs("he is in it, nine", x, 12, 4, 2, 0, 0);
        x.strokes(0, 2);
        x.fold(1);
        x.sugar();
        x.practise(1);
        x.yolk();
        statusIs("too tired, not so stiff, too little", x, 12, 4, 2, 5, 0);
        x.give(2);
        x.yolk();
        x.yolk();
        statusIs("none", x, 12, 4, 3, 5, 0);
        for (int i = 0; i < 16; i++) {
            x.days(60);
        }
        x.days(40);
        statusIs("beyond the last day", x, 12, 4, 3, 5, 1);
    }

    private static void refusedFirst(String what, WhiskedDuchy x, int why) {
        for (int i = 0; i < 5; i++) {
            check.due(what + ": status(" + i + ")", x.status(i), i == why ? 1 : 0);
        }
    }

    private static void firstReasonCounts() {
        WhiskedDuchy x = Check.duchy("sp0y0;kw9e1;mn40");
        x.strokes(1, 41);
        refusedFirst("no such cook, out of bounds", x, 0);
        x = Check.duchy("sp0y0;kw9e1;mn40");
        x.strokes(0, 41);
        refusedFirst("out of bounds, too tired", x, 1);
        x = Check.duchy("sp0y0;kw9e1;mn40");
        x.yolk();
        refusedFirst("none, too little", x, 2);
        x = Check.duchy("sp0y0;kw9e1;mn40");
        x.practise(0);
        refusedFirst("nine, too little", x, 2);
        x = Check.duchy("sp0y0;kw9e1;mn40");
        x.practise(1);
        refusedFirst("no such cook, too little", x, 0);
        x = Check.duchy("sp18;k;m");
        for (int i = 0; i < 10; i++) {
            x.sugar();
        }
        refusedFirst("nine, too little", x, 2);
        x = Check.standing("ke40;mn40l9", 40);
        x.fold(0);
        x.fold(0);
        refusedFirst("he is in it, it does not stand so", x, 2);
        x = Check.duchy("k;m");
        for (int i = 0; i < 16; i++) {
            x.days(60);
        }
        x.days(61);
        refusedFirst("out of bounds, beyond the last day", x, 1);
        x = new WhiskedDuchy();
        x.days(1000);
        refusedFirst("no duchy, out of bounds, beyond", x, 0);
    }

    private static void statusIsNotUndone() {
        WhiskedDuchy x = Check.duchy("k;m");
        x.give(3);
        x.image();
        x.strokes(9, 1);
        x.give(0);
        check.due("undo", x.undo(), 0);
        statusIs("behind undo", x, 1, 1, 0, 0, 0);
        x.back();
        statusIs("behind back", x, 1, 1, 0, 0, 0);
        x.years(3, 5);
        statusIs("behind years", x, 1, 1, 0, 0, 0);
    }

    // ---- images ----

    private static void imageKeeps() {
        WhiskedDuchy x = prepared();
        x.days(2);
        x.strokes(0, 3);
        x.fold(1);
        x.door();
        x.door();
        x.door();
        x.door();
        x.fold(0);
        x.sugar();
        int could = x.count(14);
        List<String> ahead = stateOf(x);
        check.due("image", x.image(), 2);
        check.due("that is no act", x.count(14), could);
        alike("behind image", stateOf(x), ahead);
        x.strokes(1, 2);
        x.practise(1);
        x.yolk();
        x.give(50);
        x.hours(20);
        x.fold(0);
        x.days(3);
        x.years(50, 2);
        check.due("back", x.back(), 2);
        alike("back", stateOf(x), ahead);
        check.due("no act can be undone then", x.count(14), 0);
        check.due("no act can be undone then", x.undo(), NONE);
        x.days(1);
        check.due("but one behind it", x.undo(), 0);
        alike("and that is so again", stateOf(x), ahead);
        x.draught(9);
        x.seen(0, 1, 1, true);
        x.law(1);
        check.due("back once more", x.back(), 2);
        check.due("draught is not kept", x.count(11), 9);
        check.due("nor what was seen", x.count(12), 1);
        check.due("nor the law", x.count(4), 1);
    }

    private static void imageInsteadOfTheOneAhead() {
        WhiskedDuchy x = Check.duchy("k;m");
        x.days(1);
        check.due("image", x.image(), 1);
        x.days(1);
        check.due("another", x.image(), 2);
        x.days(1);
        check.due("back to that", x.back(), 2);
        check.due("back to that again", x.back(), 2);
        x.undo();
        check.due("the day", x.count(5), 2);
    }

    private static void imageOnTheLastDay() {
        WhiskedDuchy x = Check.duchy("k;m");
        check.due("image on the first", x.image(), 0);
        check.due("back at once", x.back(), 0);
        for (int i = 0; i < 16; i++) {
            x.days(60);
        }
        x.days(39);
        check.due("image on the last", x.image(), 999);
        x.undo();
        check.due("undone", x.count(5), 998);
        check.due("back on the last", x.back(), 999);
        check.due("no day more", x.days(1), NONE);
        check.due("the log", x.count(13), 60);
    }

    private static void logOfAnImage() {
        for (int days : new int[] {1, 59, 60, 61, 100, 120}) {
            WhiskedDuchy x = dayByDay(days);
            x.image();
            x.days(60);
            x.years(60, 3);
            check.due("back", x.back(), days);
            logIs(days + " days, and back", x, days);
        }
        WhiskedDuchy x = dayByDay(70);
        x.image();
        for (int i = 0; i < 40; i++) {
            x.undo();
        }
        x.days(60);
        check.due("back to days that were undone", x.back(), 70);
        logIs("70 days, 20 of them undone, and back", x, 70);
    }

    // ---- another duchy ----

    private static void anotherDuchy() {
        WhiskedDuchy x = prepared();
        x.law(0);
        x.draught(0);
        x.days(3);
        x.seen(0, 1, 9, true);
        x.image();
        x.fold(9);
        x.strokes(0, 4);
        x.fold(0);
        x.door();
        for (int i = 0; i < 6; i++) {
            x.door();
        }
        check.due("fallen", x.count(10), 1);
        Check.feed(x, "k;m;m");
        check.due("another one", x.text(0), 2);
        List<String> fresh = stateOf(Check.duchy("k;m;m"));
        List<String> got = stateOf(x);
        for (int i = 0; i < got.size(); i++) {
            boolean stays = i == 2 || i == 4 || i == 11;
            check.due("of another one: " + got.get(i), stays || got.get(i).equals(fresh.get(i)), true);
        }
        check.due("laws stay", x.count(2), 2);
        check.due("which holds stays", x.count(4), 0);
        check.due("draught stays", x.count(11), 0);
        check.due("STATUS stays", x.status(0), 1);
        check.due("no image of it", x.back(), NONE);
        check.due("no act of it", x.count(14), 0);
        check.due("all yolk fits", x.fits(NONE), 10);
    }

    private static List<String> askedOf(WhiskedDuchy x) {
        List<String> asked = new ArrayList<>();
        for (int v = 0; v < 100; v += 9) {
            asked.add("best(" + v + ") " + x.best(v));
        }
        for (int cook = 0; cook < 4; cook++) {
            asked.add("soonest(" + cook + ", 9) " + x.soonest(cook, 9));
            asked.add("shares(" + cook + ", 999) " + x.shares(cook, 999));
            asked.add("byTurns(0, " + cook + ", 30) " + x.byTurns(0, cook, 30));
            asked.add("rests(0, " + cook + ", NONE) " + x.rests(0, cook, NONE));
            asked.add("probe(" + cook + ", 20) " + x.probe(cook, 20));
        }
        asked.add("lasts() " + x.lasts());
        asked.add("holds(9) " + x.holds(9));
        asked.add("odds(8, 33, 2) " + x.odds(8, 33, 2));
        asked.addAll(Whole.of(x, -1));
        return asked;
    }

    /** Nothing of a duchy with all places taken is found in a smaller one behind it. */
    private static void anotherSmallerDuchy() {
        for (String small : new String[] {"kw2e9;mn5v1", "ke3;kw1e2;mv0n1;mn0l0v1w1", "s;k;k;k;m;m;m;m;m;m"}) {
            WhiskedDuchy x = Check.duchy("sa9y9c1p99" + ";kw9e40".repeat(4) + ";mw9v9n0l9".repeat(7));
            for (int cook = 0; cook < 4; cook++) {
                x.strokes(cook, 2 + cook);
                x.seen(cook, 40, 50, true);
            }
            for (int m = 0; m < 7; m++) {
                x.fold(m);
            }
            x.row(0);
            x.probe(3, 50);
            x.rests(2, 3, NONE);
            x.days(3);
            x.strokes(3, 40);
            x.image();
            Check.tell(x, 0, small);
            WhiskedDuchy fresh = Check.duchy(small);
            x.strokes(0, 3);
            fresh.strokes(0, 3);
            check.due("years", x.years(3, 5), fresh.years(3, 5));
            x.strokes(0, 2);
            fresh.strokes(0, 2);
            alike(small + " behind another one", askedOf(x), askedOf(fresh));
        }
    }

    private static void countsOfNothing() {
        WhiskedDuchy x = new WhiskedDuchy();
        int[] want = {0, 0, 0, 0, NONE, 0, 0, 0, 0, 0, 0, 2, 0, 0, 0};
        for (int what = 0; what < want.length; what++) {
            check.due("new: count(" + what + ")", x.count(what), want[what]);
        }
        check.due("count(15)", x.count(15), WhiskedDuchy.HIDDEN);
        check.due("count(-1)", x.count(-1), WhiskedDuchy.HIDDEN);
        x = Check.duchy("k;m");
        want[0] = 1;
        want[1] = 1;
        for (int what = 0; what < want.length; what++) {
            check.due("told: count(" + what + ")", x.count(what), want[what]);
        }
    }
}
