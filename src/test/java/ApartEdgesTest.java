import java.util.function.Supplier;
import java.util.function.ToLongFunction;

/** The bounds that part 3 of the Terms and promises 24 to 31 name for what would be, sentence by sentence. */
public final class ApartEdgesTest {
    private static final int NONE = WhiskedDuchy.NONE;
    private static final Check check = new Check();

    public static void main(String[] args) {
        nothingChanges();
        behindFrom0To40();
        behindAsManyAsHeCan();
        soonestFrom0To99();
        soonestAsManyAsHeCan();
        stopAtTheBest();
        stopOfSeveral();
        bestOfCooks();
        bestOfSeveral();
        turnsOfTwo();
        turnsPassOver();
        turnsToTheLast();
        turnsOfBothTired();
        rowOfNobody();
        rowAsTheyCanBe();
        rowByWorth();
        rowOfSeveral();
        rowOfAllSeven();
        lastsFrom0To60();
        lastsByAllThatIsInIt();
        holdsFrom0To20();
        holdsUpTo99();
        check.finish();
    }

    private static WhiskedDuchy busy() {
        WhiskedDuchy x = Check.standing("sa4y1p50;kw5e25;kw3;kw8e40;mn0l2v4;mn0l1v5w7;mn9;mn30", 30);
        x.days(1);
        x.strokes(1, 4);
        x.fold(0);
        x.sugar();
        x.image();
        x.strokes(0, 3);
        x.seen(0, 3, 10, true);
        return x;
    }

    private static void apart(String call, ToLongFunction<WhiskedDuchy> called) {
        Supplier<WhiskedDuchy> made = ApartEdgesTest::busy;
        check.leaves("apart: " + call, made, called, called.applyAsLong(busy()));
    }

    /** "Apart, from as it is now": no question changes anything. */
    private static void nothingChanges() {
        apart("behind", x -> x.behind(0, 40));
        apart("soonest", x -> x.soonest(0, 60));
        apart("stop", x -> x.stop(2, 0));
        apart("stop", x -> x.stop(2, 1));
        apart("best", x -> x.best(50));
        apart("byTurns", x -> x.byTurns(1, 2, 60));
        apart("row", x -> x.row(0));
        apart("row", x -> x.row(1));
        apart("row", x -> x.row(2));
        apart("lasts", x -> x.lasts());
        apart("holds", x -> x.holds(20));
        apart("fits", x -> x.fits(NONE));
        apart("fits", x -> x.fits(0));
        apart("probe", x -> x.probe(2, 40));
        apart("game", x -> x.game(0, 1, 5, 5, 0));
        apart("rests", x -> x.rests(2, 1, NONE));
        apart("odds", x -> x.odds(8, 50, 1));
        apart("shares", x -> x.shares(0, 999));
        for (int what = 0; what < 10; what++) {
            int asked = what;
            apart("most(" + what + ")", x -> x.most(asked));
        }
        apart("ahead", x -> x.ahead(9999));
        apart("ahead", x -> x.ahead(100));
    }

    // ---- strokes of one ----

    private static void behindFrom0To40() {
        WhiskedDuchy x = Check.duchy("kw4e40;m");
        check.due("behind(0, 0)", x.behind(0, 0), 0);
        check.due("behind(0, 1)", x.behind(0, 1), 4);
        check.due("behind(0, 35)", x.behind(0, 35), 5);
        check.due("behind(0, 36)", x.behind(0, 36), 0);
        check.due("behind(0, 40)", x.behind(0, 40), 0);
        check.due("behind(0, 41)", x.behind(0, 41), NONE);
        check.due("behind(0, -1)", x.behind(0, -1), NONE);
        x = Check.duchy("kw4e40;m", "y:n=39?9;y:n<5?1");
        check.due("behind(0, 39)", x.behind(0, 39), 5);
        check.due("behind(0, 40)", x.behind(0, 40), 14);
        x.strokes(0, 3);
        check.due("none more", x.behind(0, 0), 3);
        check.due("one more", x.behind(0, 1), 4);
    }

    private static void behindAsManyAsHeCan() {
        WhiskedDuchy x = Check.duchy("kw4e1;kw4e9;m");
        check.due("one", x.behind(0, 1), 4);
        check.due("two are one", x.behind(0, 2), 4);
        check.due("40 are one", x.behind(0, 40), 4);
        x.strokes(1, 8);
        check.due("one left", x.behind(1, 1), 36);
        check.due("no more than one", x.behind(1, 2), 36);
        x.strokes(1, 1);
        check.due("none left", x.behind(1, 1), 36);
        check.due("none left", x.behind(1, 40), 36);
        check.due("the other has one left", x.behind(0, 40), 40);
    }

    private static void soonestFrom0To99() {
        WhiskedDuchy x = Check.duchy("kw9e40;m");
        check.due("soonest(0, 0)", x.soonest(0, 0), 0);
        check.due("soonest(0, 1)", x.soonest(0, 1), 1);
        check.due("soonest(0, 9)", x.soonest(0, 9), 1);
        check.due("soonest(0, 10)", x.soonest(0, 10), 2);
        check.due("soonest(0, 90)", x.soonest(0, 90), 10);
        check.due("soonest(0, 96)", x.soonest(0, 96), 11);
        check.due("soonest(0, 99)", x.soonest(0, 99), 12);
        check.due("soonest(0, 100)", x.soonest(0, 100), NONE);
        check.due("soonest(0, -1)", x.soonest(0, -1), NONE);
        x = Check.standing("kw9e40;m", 99);
        check.due("it stands so", x.soonest(0, 99), 0);
        x = Check.duchy("kw9e40;m", "y:n=39?9;y:n=20?8;y:0-9");
        check.due("in between", x.soonest(0, 8), 21);
        check.due("by the last", x.soonest(0, 9), 40);
    }

    private static void soonestAsManyAsHeCan() {
        WhiskedDuchy x = Check.duchy("kw4e9;m");
        check.due("by the last he can", x.soonest(0, 36), 9);
        check.due("by none", x.soonest(0, 37), NONE);
        x.strokes(0, 8);
        check.due("as it stands", x.soonest(0, 32), 0);
        check.due("by the last he can", x.soonest(0, 36), 1);
        check.due("by none", x.soonest(0, 37), NONE);
        x.strokes(0, 1);
        check.due("he can none, none are needed", x.soonest(0, 36), 0);
        check.due("he can none", x.soonest(0, 37), NONE);
    }

    private static void stopIs(String what, WhiskedDuchy x, int cook, int strokes, int stands) {
        check.due(what + ": stop(" + cook + ", 0)", x.stop(cook, 0), strokes);
        check.due(what + ": stop(" + cook + ", 1)", x.stop(cook, 1), stands);
    }

    private static void stopAtTheBest() {
        stopIs("as many as he can", Check.duchy("kw4e9;m"), 0, 9, 36);
        stopIs("before it is less", Check.duchy("kw4e40;m"), 0, 20, 50);
        stopIs("not at all", Check.duchy("kw1e40;m", "y:0-1"), 0, 0, 0);
        WhiskedDuchy x = Check.standing("kw4e40;kw4e3;m", 30);
        x.law(Check.tell(x, 1, "y:0-1"));
        stopIs("not at all, from 30", x, 1, 0, 30);
        x.law(1);
        stopIs("all that he can, from 30", x, 1, 3, 33);
        x.strokes(1, 3);
        stopIs("he can none", x, 1, 0, 33);
        stopIs("by the last of 40", Check.duchy("ke40;m", "y:n=39?2;y:n=0?1"), 0, 40, 3);
    }

    private static void stopOfSeveral() {
        stopIs("the fewest of those at 99", Check.duchy("ke40;m", "y:9"), 0, 11, 99);
        stopIs("the fewest of those at 30", Check.duchy("kw3e20;m"), 0, 10, 30);
        stopIs("the fewest at 0", Check.duchy("ke40;m", "y:0"), 0, 0, 0);
        stopIs("the fewest of two peaks", Check.duchy("ke40;m", "y:n<3?2;y:n<6?0-2;y:n<9?2;y:0-2"), 0, 3, 6);
        stopIs("the higher of two peaks", Check.duchy("ke40;m", "y:n<3?2;y:n<6?0-2;y:n<9?3;y:0-2"), 0, 9, 9);
    }

    // ---- of several cooks ----

    private static void bestOfCooks() {
        WhiskedDuchy x = Check.duchy("kw2e40;kw4e2;kw3e3;kw9e1;m");
        check.due("best(0)", x.best(0), 0);
        check.due("best(2)", x.best(2), 0);
        check.due("best(3)", x.best(3), 1);
        check.due("best(4)", x.best(4), 1);
        check.due("best(5)", x.best(5), 3);
        check.due("best(9)", x.best(9), 3);
        check.due("best(10)", x.best(10), 0);
        check.due("best(20)", x.best(20), 0);
        check.due("best(21)", x.best(21), NONE);
        check.due("best(99)", x.best(99), NONE);
        check.due("best(100)", x.best(100), NONE);
        check.due("best(-1)", x.best(-1), NONE);
        check.due("best(99) of one", Check.duchy("kw9e40;m").best(99), 0);
    }

    private static void bestOfSeveral() {
        WhiskedDuchy x = Check.duchy("kw1e1;kw4;kw4;kw4;m");
        check.due("of several the lowest", x.best(4), 1);
        check.due("none needed", x.best(0), 0);
        x.practise(3);
        check.due("the one with the soonest", x.best(5), 3);
        check.due("of several the lowest", x.best(4), 1);
        x = Check.duchy("kw4e1;kw4e2;kw4;m");
        x.strokes(0, 1);
        check.due("who is tired can't", x.best(5), 1);
        check.due("none needed of who is tired", x.best(4), 0);
        x.strokes(1, 2);
        check.due("who is tired can't", x.best(13), 2);
    }

    private static void turnsOfTwo() {
        WhiskedDuchy x = Check.duchy("kw2e40;kw5e40;m");
        int[] stands = {0, 2, 7, 9, 14, 16, 21};
        for (int n = 0; n + 1 < stands.length; n++) {
            check.due("just so", x.byTurns(0, 1, stands[n]), n);
            check.due("one more", x.byTurns(0, 1, stands[n] + 1), n + 1);
        }
        check.due("the other first", x.byTurns(1, 0, 5), 1);
        check.due("the other first", x.byTurns(1, 0, 6), 2);
        check.due("byTurns(0, 1, 99)", x.byTurns(0, 1, 99), NONE);
        check.due("byTurns(0, 1, 100)", x.byTurns(0, 1, 100), NONE);
        check.due("byTurns(0, 1, -1)", x.byTurns(0, 1, -1), NONE);
        x.strokes(0, 1);
        check.due("the first is first, whoever whisked last", x.byTurns(0, 1, 4), 1);
        check.due("the first is first, whoever whisked last", x.byTurns(1, 0, 7), 1);
    }

    private static void turnsPassOver() {
        WhiskedDuchy x = Check.duchy("kw2e1;kw5e4;m");
        check.due("by both", x.byTurns(0, 1, 7), 2);
        check.due("then the other alone", x.byTurns(0, 1, 12), 3);
        check.due("to his last", x.byTurns(0, 1, 22), 5);
        check.due("and no more", x.byTurns(0, 1, 23), NONE);
        check.due("the second passed over", x.byTurns(1, 0, 12), 3);
        check.due("to his last", x.byTurns(1, 0, 22), 5);
        check.due("and no more", x.byTurns(1, 0, 23), NONE);
        x.strokes(0, 1);
        check.due("the first is tired from the start", x.byTurns(0, 1, 7), 1);
        check.due("the first is tired from the start", x.byTurns(0, 1, 22), 4);
        check.due("and no more", x.byTurns(0, 1, 23), NONE);
        check.due("the second is tired from the start", x.byTurns(1, 0, 22), 4);
        check.due("and no more", x.byTurns(1, 0, 23), NONE);
    }

    private static void turnsStrokeByStroke(String text, int... stands) {
        WhiskedDuchy x = Check.duchy(text);
        for (int n = 0; n < stands.length; n++) {
            check.due(text + ", by turns at " + stands[n], x.byTurns(0, 1, stands[n]), n);
            check.due(text + ", by turns above " + stands[n], x.byTurns(0, 1, stands[n] + 1), n + 1 < stands.length ? n + 1 : NONE);
        }
    }

    /** Each whisks just as often as he can, and in his turn. */
    private static void turnsToTheLast() {
        turnsStrokeByStroke("kw2e1;kw5e1;m", 0, 2, 7);
        turnsStrokeByStroke("kw2e2;kw5e5;m", 0, 2, 7, 9, 14, 19, 24, 29);
        turnsStrokeByStroke("kw2e3;kw5e2;m", 0, 2, 7, 9, 14, 16);
        turnsStrokeByStroke("kw2e5;kw5e2;m", 0, 2, 7, 9, 14, 16, 18, 20);
        turnsStrokeByStroke("kw5e1;kw2e3;m", 0, 5, 7, 9, 11);
    }

    private static void turnsOfBothTired() {
        WhiskedDuchy x = Check.duchy("kw2e1;kw5e1;m");
        x.strokes(0, 1);
        x.strokes(1, 1);
        check.due("none needed", x.byTurns(0, 1, 7), 0);
        check.due("none can", x.byTurns(0, 1, 8), NONE);
        x = Check.duchy("ke40;ke40;m", "y:n=79?9;y:n<3?1");
        check.due("by the last of 80", x.byTurns(0, 1, 12), 80);
        check.due("by none of 80", x.byTurns(1, 0, 13), NONE);
    }

    // ---- rows ----

    private static void rowIs(String what, WhiskedDuchy x, int row, int value, int stands) {
        check.due(what + ": row(0)", x.row(0), row);
        check.due(what + ": row(1)", x.row(1), value);
        check.due(what + ": row(2)", x.row(2), stands);
    }

    private static void rowOfNobody() {
        rowIs("it does not stand so", Check.standing("ke40;mn40", 39), NONE, 0, 39);
        rowIs("at 0", Check.duchy("k;mn1"), NONE, 0, 0);
        rowIs("worth nothing, so the shortest", Check.duchy("k;mn0v0l0;mn0v0l0"), NONE, 0, 0);
        rowIs("worth nothing, so the stiffest", Check.standing("ke40;mn0v0l1", 10), NONE, 0, 10);
        WhiskedDuchy x = Check.standing("ke40;mn0l1;mn0l1", 10);
        x.fold(0);
        x.fold(1);
        rowIs("all are in it", x, NONE, 0, 8);
    }

    private static void rowAsTheyCanBe() {
        rowIs("just so", Check.standing("ke40;mn40l0", 40), 0, 3, 40);
        rowIs("just so behind the other", Check.standing("ke40;mn20l1v9;mn20l1v9;mn19l1", 20), 2, 12, 18);
        rowIs("none but one of two", Check.standing("ke40;mn20l1v8;mn20l1v9", 20), 1, 9, 19);
        rowIs("who needs more goes first", Check.standing("ke40;mn19l1;mn20l1", 20), 10, 6, 18);
        rowIs("down to 0", Check.standing("ke40;mn5l9;mn0l9", 5), 1, 6, 0);
        rowIs("who needs nothing, at 0", Check.duchy("k;mn0l9;mn0l9"), 1, 6, 0);
    }

    private static void rowByWorth() {
        rowIs("one of worth rather than two", Check.standing("ke40;mn10l0v2;mn10l9v5;mn10l0v2", 10), 21, 9, 1);
        rowIs("nine against eight", Check.standing("ke40;mn10l9v9;mn10l9v8", 10), 0, 9, 1);
        WhiskedDuchy x = Check.standing("ke40;mn0l0v9;mn10l5v4;mn10l5v5", 10);
        x.fold(0);
        rowIs("who is in it does not count", x, 2, 5, 5);
    }

    private static void rowOfSeveral() {
        rowIs("how it stands, then", Check.standing("ke40;mn10l3v5;mn10l2v5", 10), 1, 5, 8);
        rowIs("rather one that leaves more than a lower", Check.standing("ke40;mn10l9v5;mn10l8v5", 10), 1, 5, 2);
        rowIs("then the shortest", Check.standing("ke40;mn10l0v0;mn10l3v5", 10), 1, 5, 7);
        rowIs("shortest, though not the least", Check.standing("ke40;mn10l1v2;mn9l2v3;mn10l3v5", 10), 2, 5, 7);
        rowIs("shortest, though a longer one is less: 32, not 014",
            Check.standing("ke40;mn10l1v1;mn9l1v1;mn7l1v1;mn10l3v4;mn8l2v3", 10), 32, 5, 6);
        rowIs("then the least", Check.standing("ke40;mn10l3v5;mn10l3v5;mn10l3v5", 10), 0, 5, 7);
        rowIs("the least of all orders", Check.standing("ke40;mn0;mn0;mn0", 10), 12, 9, 7);
        rowIs("the least of two rows of two", Check.standing("ke40;mn10l3v5;mn7l1v1;mn10l3v5", 10), 1, 6, 6);
    }

    private static void rowOfAllSeven() {
        rowIs("all seven", Check.standing("ke40" + ";mn10l0v9".repeat(7), 10), 123456, 63, 10);
        rowIs("from the last to the first", Check.standing("ke40;mn4l1;mn5l1;mn6l1;mn7l1;mn8l1;mn9l1;mn10l1", 10), 6543210, 21, 3);
        WhiskedDuchy x = Check.standing("ke40" + ";mn10l0v9".repeat(7), 10);
        x.fold(0);
        x.fold(6);
        rowIs("without two of them", x, 12345, 45, 10);
    }

    // ---- hours ----

    private static void lastsFrom0To60() {
        for (int v : new int[] {0, 1, 2, 59, 60, 61, 99}) {
            check.due("lasts at " + v, Check.standing("sa0;ke40;m", v).lasts(), v > 60 ? NONE : v);
        }
        for (int v : new int[] {0, 1, 2, 3, 98, 99}) {
            check.due("lasts at " + v + ", by two", Check.standing("sa3;ke40;m", v).lasts(), (v + 1) / 2);
        }
        WhiskedDuchy x = Check.standing("sa0;ke40;m", 1);
        x.sugar();
        check.due("never", x.lasts(), NONE);
        x = Check.standing("sa0;ke40;m", 0);
        x.sugar();
        check.due("it stands at 0", x.lasts(), 0);
    }

    private static void lastsByAllThatIsInIt() {
        WhiskedDuchy x = Check.standing("sa9;ke40" + ";mn0l0w9".repeat(7), 99);
        for (int m = 0; m < 7; m++) {
            x.fold(m);
        }
        check.due("by 19", x.lasts(), 6);
        for (int i = 0; i < 9; i++) {
            x.sugar();
        }
        check.due("by 10", x.lasts(), 10);
        x.hours(9);
        check.due("by 10", x.lasts(), 1);
        x.hours(1);
        check.due("it stands at 0", x.lasts(), 0);
    }

    private static void holdsFrom0To20() {
        WhiskedDuchy x = Check.standing("sa0;ke40;m", 5);
        check.due("holds(0)", x.holds(0), 1);
        check.due("holds(1)", x.holds(1), 2);
        check.due("holds(20)", x.holds(20), 21);
        check.due("holds(21)", x.holds(21), NONE);
        check.due("holds(-1)", x.holds(-1), NONE);
        x.sugar();
        check.due("it does not sink", x.holds(20), 1);
    }

    private static void holdsUpTo99() {
        WhiskedDuchy x = Check.duchy("sa9p99;ke40" + ";mn0l0w9".repeat(7));
        for (int m = 0; m < 7; m++) {
            x.fold(m);
        }
        check.due("by 19", x.holds(5), 96);
        check.due("by 19", x.holds(6), NONE);
        check.due("by 19", x.holds(0), 1);
        x.sugar();
        check.due("by 18", x.holds(5), 91);
        for (int i = 0; i < 4; i++) {
            x.sugar();
        }
        check.due("by 14", x.holds(7), 99);
        check.due("by 14", x.holds(8), NONE);
        x = Check.duchy("sa9;k;mn0l0w4;mn0l0w1");
        x.fold(0);
        check.due("by 5", x.holds(19), 96);
        check.due("by 5: 101", x.holds(20), NONE);
        check.due("it is not held against how it stands", x.count(6), 0);
    }
}
