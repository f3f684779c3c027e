/** What a stroke gives is held within -9 .. 9, by a law and without one, wherever a stroke is spoken of. */
public final class StrokeTest {
    private static final Check check = new Check();

    public static void main(String[] args) {
        upperEnd();
        upperEndOfTwo();
        upperEndFromTheMorning();
        upperEndOfYears();
        lowerEnd();
        lowerEndOfYears();
        withinTheEnds();
        check.finish();
    }

    private static void upperEnd() {
        WhiskedDuchy x = Check.duchy("sc1;kw9e40;m");
        check.due("behind(0, 1)", x.behind(0, 1), 9);
        check.due("behind(0, 10)", x.behind(0, 10), 90);
        check.due("11 less 3", x.behind(0, 11), 98);
        check.due("soonest(0, 10)", x.soonest(0, 10), 2);
        check.due("soonest(0, 99)", x.soonest(0, 99), 12);
        check.due("stop(0, 0)", x.stop(0, 0), 12);
        check.due("stop(0, 1)", x.stop(0, 1), 99);
        check.due("strokes(0, 1)", x.strokes(0, 1), 9);
        check.due("strokes(0, 9)", x.strokes(0, 9), 90);
        check.due("strokes(0, 1)", x.strokes(0, 1), 98);
        x.law(Check.tell(x, 1, "y:w+2*c+3"));
        x.door();
        check.due("by a law", x.strokes(0, 2), 49 + 18);
    }

    private static void upperEndOfTwo() {
        WhiskedDuchy x = Check.duchy("sc1;kw8;kw9;m");
        check.due("as soon by either", x.best(11), 0);
        check.due("byTurns(0, 1, 18)", x.byTurns(0, 1, 18), 2);
        check.due("byTurns(0, 1, 19)", x.byTurns(0, 1, 19), 3);
        check.due("game(1, 0, 1, 0, 1)", x.game(1, 0, 1, 0, 1), 9 / 4);
        check.due("game(1, 0, 3, 1, 1)", x.game(1, 0, 3, 1, 1), 36 / 4 - 1);
        check.due("game(1, 0, 5, 5, 0)", x.game(1, 0, 5, 5, 0), 90 / 4 - 5);
        check.due("even ten of 9 do not reach 99", x.rests(0, 1, -1), 1);
        check.due("so each one more is worth it", x.rests(0, 1, 0), 55);
    }

    private static void upperEndFromTheMorning() {
        WhiskedDuchy x = Check.duchy("sc1;kw9;m");
        x.seen(0, 1, 9, true);
        check.due("by 11, 10 and 9", x.fits(-1), 3);
        check.due("all at 90 behind ten; then 98, 97, 96", x.probe(0, 97), 11);
        x.seen(0, 1, 10, true);
        check.due("by none", x.fits(-1), 0);
    }

    private static void upperEndOfYears() {
        WhiskedDuchy x = Check.duchy("sc1;kw9e40;mn0l0");
        x.draught(0);
        x.years(40, 7);
        for (int i = 0; i < 40; i++) {
            int strokes = x.log(i, 2);
            int want = strokes > 10 ? Math.min(99, 90 + 8 * (strokes - 10)) : 9 * strokes;
            check.due("behind " + strokes + " strokes", x.log(i, 0), want);
        }
    }

    private static void lowerEnd() {
        WhiskedDuchy x = Check.duchy("sy9;kw1e40;kw2e40;m", "y:9");
        check.due("strokes(0, 11)", x.strokes(0, 11), 99);
        x.law(-1);
        check.due("1 less 9 less 3", x.behind(0, 1), 90);
        check.due("2 less 9 less 3", x.behind(1, 1), 90);
        check.due("ten of them", x.behind(0, 10), 9);
        check.due("not at all", x.stop(0, 0), 0);
        check.due("game(0, 1, 5, 5, 0)", x.game(0, 1, 5, 5, 0), 9 / 4 - 5);
        check.due("strokes(0, 2)", x.strokes(0, 2), 81);
        check.due("strokes(1, 9)", x.strokes(1, 9), 0);
    }

    private static void lowerEndOfYears() {
        WhiskedDuchy x = Check.duchy("sy9;kw1e40;mn40l0", "y:9");
        x.strokes(0, 11);
        x.law(-1);
        x.draught(0);
        for (int seed = 0; seed < 20; seed++) {
            x.years(1, seed);
            int more = x.log(0, 2) - 11;
            check.due("behind " + more + " strokes more", x.log(0, 0), Math.max(0, 99 - 9 * more));
            x.undo();
        }
    }

    private static void withinTheEnds() {
        WhiskedDuchy x = Check.duchy("sc1;kw7;kw6;m");
        check.due("just 9", x.behind(0, 1), 9);
        check.due("8", x.behind(1, 1), 8);
        x = Check.duchy("sy7;kw1e40;m", "y:9");
        x.strokes(0, 11);
        x.law(-1);
        check.due("just -9", x.behind(0, 1), 90);
        x.yolk();
        check.due("-8", x.behind(0, 1), 91);
    }
}
