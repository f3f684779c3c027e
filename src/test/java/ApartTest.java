/** Promises 24 to 31: behind, soonest, stop, best, byTurns, row, lasts, holds. */
public final class ApartTest {
    private static final Check check = new Check();

    public static void main(String[] args) {
        behind();
        soonest();
        stop();
        best();
        byTurns();
        row();
        rowOfSeveral();
        lasts();
        holds();
        check.finish();
    }

    private static void behind() {
        WhiskedDuchy x = Check.duchy("kw5e12;kw9e40;m");
        check.due("behind(0, 0)", x.behind(0, 0), 0);
        check.due("behind(0, 10)", x.behind(0, 10), 50);
        check.due("as many as he can", x.behind(0, 40), 54);
        check.due("behind(0, 41)", x.behind(0, 41), -1);
        check.due("behind(0, -1)", x.behind(0, -1), -1);
        check.due("behind(2, 1)", x.behind(2, 1), -1);
        check.due("behind(-1, 1)", x.behind(-1, 1), -1);
        check.due("99 at most", x.behind(1, 40), 99);
        x.strokes(0, 8);
        check.due("from now on", x.behind(0, 3), 40 + 5 + 5 + 2);
        check.due("as many as he still can", x.behind(0, 40), 40 + 5 + 5 + 2 + 2);
        check.due("apart", x.count(6), 40);
        check.due("apart", x.count(14), 1);
    }

    private static void soonest() {
        WhiskedDuchy x = Check.duchy("kw5e12;kw1e40;m");
        check.due("soonest(0, 0)", x.soonest(0, 0), 0);
        check.due("soonest(0, 1)", x.soonest(0, 1), 1);
        check.due("soonest(0, 50)", x.soonest(0, 50), 10);
        check.due("soonest(0, 54)", x.soonest(0, 54), 12);
        check.due("soonest(0, 55)", x.soonest(0, 55), -1);
        check.due("soonest(1, 10)", x.soonest(1, 10), 10);
        check.due("soonest(1, 11)", x.soonest(1, 11), -1);
        check.due("soonest(0, 100)", x.soonest(0, 100), -1);
        check.due("soonest(0, -1)", x.soonest(0, -1), -1);
        check.due("soonest(2, 0)", x.soonest(2, 0), -1);
        x.strokes(0, 12);
        check.due("who is tired needs none", x.soonest(0, 54), 0);
        check.due("who is tired can't", x.soonest(0, 55), -1);
    }

    private static void stop() {
        WhiskedDuchy x = Check.duchy("kw5e12;kw3e30;kw2e30;m");
        check.due("stop(0, 0)", x.stop(0, 0), 12);
        check.due("stop(0, 1)", x.stop(0, 1), 54);
        check.due("of several the fewest", x.stop(1, 0), 10);
        check.due("stop(1, 1)", x.stop(1, 1), 30);
        check.due("stop(1, 2)", x.stop(1, 2), -1);
        check.due("stop(1, -1)", x.stop(1, -1), -1);
        check.due("stop(3, 0)", x.stop(3, 0), -1);
        x.strokes(0, 10);
        check.due("not at all", x.stop(2, 0), 0);
        check.due("as it stands", x.stop(2, 1), 50);
        x = Check.duchy("kw9e40;m", "y:n<5?9;y:n<20?0-9;y:8");
        check.due("the later one", x.stop(0, 0), 33);
        check.due("the later one", x.stop(0, 1), 99);
        x = Check.duchy("kw9e40;m", "y:n<5?9;y:n<20?0-9;y:n<25?9;y:0-1");
        check.due("of two alike the first", x.stop(0, 0), 5);
    }

    private static void best() {
        WhiskedDuchy x = Check.duchy("kw3e20;kw5e3;kw5e9;m");
        check.due("best(0)", x.best(0), 0);
        check.due("best(3)", x.best(3), 0);
        check.due("best(15)", x.best(15), 1);
        check.due("best(16)", x.best(16), 2);
        check.due("best(45)", x.best(45), 2);
        check.due("best(46)", x.best(46), -1);
        check.due("best(100)", x.best(100), -1);
        check.due("best(-1)", x.best(-1), -1);
        check.due("no duchy", new WhiskedDuchy().best(0), -1);
    }

    private static void byTurns() {
        WhiskedDuchy x = Check.duchy("kw5e3;kw3e20;kw9e1;m");
        check.due("none needed", x.byTurns(0, 1, 0), 0);
        check.due("byTurns(0, 1, 5)", x.byTurns(0, 1, 5), 1);
        check.due("byTurns(1, 0, 5)", x.byTurns(1, 0, 5), 2);
        check.due("byTurns(0, 1, 21)", x.byTurns(0, 1, 21), 5);
        check.due("the other alone", x.byTurns(0, 1, 30), 8);
        check.due("the other alone", x.byTurns(0, 1, 28), 8);
        check.due("the first passed over", x.byTurns(2, 1, 15), 3);
        check.due("the first passed over", x.byTurns(2, 0, 19), 3);
        check.due("no stroke more than both have", x.byTurns(0, 2, 25), -1);
        check.due("the first passed over", x.byTurns(1, 2, 15), 3);
        check.due("both tired", x.byTurns(0, 2, 24), 4);
        check.due("by none", x.byTurns(0, 2, 25), -1);
        check.due("alike", x.byTurns(1, 1, 0), -1);
        check.due("byTurns(3, 1, 0)", x.byTurns(3, 1, 0), -1);
        check.due("byTurns(1, -1, 0)", x.byTurns(1, -1, 0), -1);
        check.due("byTurns(0, 1, 100)", x.byTurns(0, 1, 100), -1);
        check.due("byTurns(0, 1, -1)", x.byTurns(0, 1, -1), -1);
        x.strokes(2, 1);
        check.due("tired from the start", x.byTurns(2, 0, 10), 1);
    }

    private static void rowIs(String text, int strokes, int row, int value, int stands) {
        WhiskedDuchy x = Check.duchy(text);
        if (strokes > 0) {
            x.strokes(0, strokes);
        }
        check.due("row(0) of " + text, x.row(0), row);
        check.due("row(1) of " + text, x.row(1), value);
        check.due("row(2) of " + text, x.row(2), stands);
    }

    private static void row() {
        check.due("no duchy", new WhiskedDuchy().row(0), -1);
        check.due("row(3)", Check.duchy("k;m").row(3), -1);
        check.due("row(-1)", Check.duchy("k;m").row(-1), -1);
        rowIs("kw5;m", 0, -1, 0, 0);
        rowIs("kw5;mn0", 0, 0, 3, 0);
        rowIs("kw5;mn20v5l3;mn30v4l5;mn5v2l0", 6, 102, 11, 22);
        rowIs("kw5;mn10;mn10;mn10;mn10;mn10;mn10;mn10", 4, 123456, 21, 13);
        rowIs("kw5;mn16;mn17;mn18;mn19;mn20;mn15;mn14", 4, 4321056, 21, 13);
        WhiskedDuchy x = Check.duchy("kw5;mn0v9;mn0v1;mn0v2");
        x.strokes(0, 2);
        x.fold(0);
        check.due("who is in it is in no row", x.row(0), 12);
        check.due("nor his value", x.row(1), 3);
        check.due("how it stands", x.row(2), 7);
        x.fold(1);
        x.fold(2);
        check.due("nobody is left", x.row(0), -1);
        check.due("nobody is left", x.row(1), 0);
        check.due("nobody is left", x.row(2), 7);
    }

    private static void rowOfSeveral() {
        rowIs("kw5;mn10v3l4;mn10v3l2", 2, 1, 3, 8);
        rowIs("kw5;mn10v3l2;mn10v3l2", 2, 0, 3, 8);
        rowIs("kw5;mn0v0l0;mn10v3l2", 2, 1, 3, 8);
        rowIs("kw5;mn0v0l0", 2, -1, 0, 10);
        rowIs("kw5;mn10v3l3;mn10v3l2", 2, 1, 3, 8);
        rowIs("kw5;mn10v1l1;mn9v2l1;mn10v3l2", 2, 2, 3, 8);
        rowIs("kw5;mn10v3l2;mn10v1l1;mn9v2l1", 2, 0, 3, 8);
        rowIs("kw5;mn10v2l1;mn0v1l1;mn10v5l4;mn8v3l3", 2, 21, 6, 5);
        rowIs("kw5;mn10v2l1;mn9v2l0;mn10v4l1", 2, 12, 6, 9);
        rowIs("kw5;mn10v3l9;mn10v5l3;mn5v5l3;mn10v9l9", 2, 12, 10, 4);
        rowIs("kw5;mn10v1l0;mn10v4l4;mn10v5l9;mn10v5l4", 2, 3, 6, 6);
    }

    private static void lasts() {
        check.due("no duchy", new WhiskedDuchy().lasts(), -1);
        WhiskedDuchy x = Check.duchy("sa3;kw6;mw9n0l0");
        check.due("at 0", x.lasts(), 0);
        x.strokes(0, 3);
        check.due("by 2", x.lasts(), 9);
        x.fold(0);
        check.due("by 4", x.lasts(), 5);
        for (int i = 0; i < 3; i++) {
            x.sugar();
        }
        check.due("by 1", x.lasts(), 18);
        x.sugar();
        check.due("by none", x.lasts(), -1);
        check.due("apart", x.count(6), 18);
        x = Check.duchy("sa0;kw6e40;kw1;m");
        x.strokes(0, 10);
        check.due("in 60", x.lasts(), 60);
        x.strokes(0, 1);
        check.due("not within 60", x.lasts(), -1);
        x = Check.duchy("sa0;kw1e1;kw6;m");
        x.strokes(1, 10);
        x.law(Check.tell(x, 1, "y:1"));
        x.strokes(0, 1);
        check.due("61 are not within 60", x.lasts(), -1);
    }

    private static void holds() {
        check.due("no duchy", new WhiskedDuchy().holds(0), -1);
        WhiskedDuchy x = Check.duchy("sa3;kw6;mw9n0l0");
        check.due("holds(0)", x.holds(0), 1);
        check.due("holds(1)", x.holds(1), 3);
        check.due("holds(20)", x.holds(20), 41);
        check.due("holds(21)", x.holds(21), -1);
        check.due("holds(-1)", x.holds(-1), -1);
        x.strokes(0, 1);
        x.fold(0);
        check.due("holds(20)", x.holds(20), 81);
        check.due("apart", x.count(6), 6);
        x = Check.duchy("sa9;kw6;mw9n0l0;mw9n0l0");
        x.fold(0);
        x.fold(1);
        check.due("by 8", x.holds(12), 97);
        x.sugar();
        check.due("by 7", x.holds(14), 99);
        check.due("by none", x.holds(15), -1);
        x.undo();
        check.due("by none", x.holds(13), -1);
        for (int i = 0; i < 9; i++) {
            x.sugar();
        }
        check.due("by 0", x.holds(20), 1);
    }
}
