/** The bounds that part 4 of the Terms and promises 19 and 20 name for years by draws, sentence by sentence. */
public final class YearsEdgesTest {
    private static final int NONE = WhiskedDuchy.NONE;
    private static final Check check = new Check();
    private static long drawn;

    public static void main(String[] args) {
        yearsOneTo60();
        yearsUpTo999();
        oneActEach();
        noStatus();
        draughtFrom0To9();
        doorsByDraught();
        seedsAtTheEnds();
        seedBeginsAnew();
        fiveToFourteenStrokes();
        asManyAsHeCan();
        onTopOfWhatThereIs();
        foldedIfHeCanBe();
        fallsByADoor();
        check.finish();
    }

    private static int draw(int j) {
        drawn = drawn * 6364136223846793005L + 1442695040888963407L;
        return (int) ((drawn >>> 33) % j);
    }

    private static void yearsOneTo60() {
        WhiskedDuchy x = Check.duchy("k;m");
        check.due("years(1, 5)", x.years(1, 5), 1);
        check.due("years(60, 5)", x.years(60, 5), 61);
        check.due("the log", x.count(13), 60);
        check.due("years(61, 5)", x.years(61, 5), NONE);
        check.due("years(0, 5)", x.years(0, 5), NONE);
        check.due("years(-1, 5)", x.years(-1, 5), NONE);
        check.due("the day", x.count(5), 61);
    }

    private static WhiskedDuchy onDay(int day) {
        WhiskedDuchy x = Check.duchy("k;m");
        for (int left = day; left > 0; left -= 60) {
            x.days(Math.min(60, left));
        }
        return x;
    }

    private static void yearsUpTo999() {
        for (int day = 937; day <= 941; day++) {
            check.due("60 from day " + day, onDay(day).years(60, 5), day > 939 ? NONE : day + 60);
        }
        check.due("one from day 998", onDay(998).years(1, 5), 999);
        check.due("two from day 998", onDay(998).years(2, 5), NONE);
        check.due("one from day 999", onDay(999).years(1, 5), NONE);
        WhiskedDuchy x = onDay(998);
        x.years(1, 5);
        check.due("none goes by then", x.days(1), NONE);
        x.undo();
        check.due("undone", x.days(1), 999);
    }

    private static void oneActEach() {
        WhiskedDuchy x = Check.duchy("k;mn0;mn0");
        x.years(1, 5);
        check.due("one", x.count(14), 1);
        x.years(38, 5);
        check.due("39", x.count(14), 39);
        x.years(1, 5);
        check.due("40", x.count(14), 40);
        x.years(1, 5);
        check.due("40 at most", x.count(14), 40);
        check.due("undo", x.undo(), 39);
        check.due("the day", x.count(5), 40);
        check.due("in the morning", x.count(6) + x.count(7) + x.most(5), 0);
    }

    private static void noStatus() {
        WhiskedDuchy x = new WhiskedDuchy();
        x.years(1, 5);
        x.years(0, 5);
        Check.tell(x, 0, "ke1;mn40;mn40");
        x.years(61, 5);
        x.years(0, 5);
        x.years(20, 5);
        for (int i = 0; i < 16; i++) {
            x.days(60);
        }
        x.years(60, 5);
        for (int what = 0; what < 5; what++) {
            check.due("status(" + what + ")", x.status(what), 0);
        }
    }

    // ---- draught ----

    private static void draughtFrom0To9() {
        WhiskedDuchy x = new WhiskedDuchy();
        check.due("2 at first", x.count(11), 2);
        check.due("it is so", x.draught(2), false);
        for (int v = 0; v <= 9; v++) {
            check.due("draught(" + v + ")", x.draught(v), true);
            check.due("count(11)", x.count(11), v);
            check.due("it is so", x.draught(v), false);
        }
        check.due("draught(10)", x.draught(10), false);
        check.due("draught(-1)", x.draught(-1), false);
        check.due("count(11)", x.count(11), 9);
        Check.tell(x, 0, "k;m");
        check.due("another duchy", x.count(11), 9);
    }

    /** A door by a draw below draught, and by none else; it is the last of a day's draws. */
    private static void doorsByDraught() {
        for (int draught = 0; draught <= 9; draught++) {
            WhiskedDuchy x = Check.duchy("kw4e40;mn40");
            x.draught(draught);
            x.years(60, 12345 + draught);
            drawn = 12345 + draught;
            int doors = 0;
            for (int day = 1; day <= 60; day++) {
                draw(1);
                int strokes = draw(10) + 5;
                draw(1);
                boolean isDoor = draw(10) < draught;
                doors += isDoor ? 1 : 0;
                int whisked = strokes <= 10 ? 4 * strokes : 40 + strokes - 10;
                int loses = whisked >= 40 ? 1 : 0;
                int stood = isDoor ? (whisked - loses) / 2 : whisked - loses;
                check.due("strokes on day " + day, x.log(60 - day, 2), strokes);
                check.due("how it stood on day " + day, x.log(60 - day, 0), stood);
                check.due("who was in it on day " + day, x.log(60 - day, 1), loses);
            }
            check.due("doors by " + draught, doors == 0, draught == 0);
        }
    }

    // ---- draws ----

    private static void seedsAtTheEnds() {
        long[] seeds = {0, 1, -1, Long.MAX_VALUE, Long.MIN_VALUE, Long.MAX_VALUE - 1, Long.MIN_VALUE + 1,
            Integer.MAX_VALUE, Integer.MIN_VALUE, 1L << 32, 1L << 33, -1L << 33};
        for (long seed : seeds) {
            WhiskedDuchy x = Check.duchy("kw1e40;kw2e40;kw3e40;kw4e40;mn0l0;mn0l0;mn0l0");
            x.draught(0);
            check.due("years(20, " + seed + ")", x.years(20, seed), 20);
            drawn = seed;
            for (int day = 19; day >= 0; day--) {
                int cook = draw(4);
                int strokes = draw(10) + 5;
                int in = 1 << draw(3) | 1 << draw(3) | 1 << draw(3);
                draw(10);
                int fresh = Math.min(10, strokes) * (cook + 1);
                int stood = fresh + Math.max(-fresh, (strokes > 10 ? strokes - 10 : 0) * (cook - 2));
                check.due("strokes by " + seed, x.log(day, 2), strokes);
                check.due("who was in it by " + seed, x.log(day, 1), in);
                check.due("how it stood by " + seed, x.log(day, 0), stood);
            }
        }
    }

    private static void seedBeginsAnew() {
        WhiskedDuchy x = Check.duchy("kw3e40;kw5e40;mn0l0;mn0l0");
        x.years(3, 77);
        x.years(3, 77);
        WhiskedDuchy y = Check.duchy("kw3e40;kw5e40;mn0l0;mn0l0");
        y.years(6, 77);
        for (int i = 0; i < 3; i++) {
            for (int what = 0; what < 3; what++) {
                check.due("the same draws by the same seed", x.log(i, what), x.log(i + 3, what));
                check.due("and in one run", y.log(i + 3, what), x.log(i + 3, what));
            }
        }
    }

    private static void fiveToFourteenStrokes() {
        WhiskedDuchy x = Check.duchy("ke40;m");
        int found = 0;
        for (int seed = 0; seed < 3; seed++) {
            x.years(60, seed);
            for (int i = 0; i < 60; i++) {
                int strokes = x.log(i, 2);
                check.due("from 5 to 14: " + strokes, strokes >= 5 && strokes <= 14, true);
                found |= 1 << strokes;
            }
        }
        check.due("all of them", found, (1 << 15) - (1 << 5));
    }

    private static void asManyAsHeCan() {
        for (int endurance : new int[] {1, 4, 5, 6, 13, 14, 15}) {
            WhiskedDuchy x = Check.duchy("kw4e" + endurance + ";mn40");
            x.years(40, 5);
            drawn = 5;
            for (int i = 39; i >= 0; i--) {
                draw(1);
                int strokes = draw(10) + 5;
                draw(1);
                draw(10);
                check.due("by endurance " + endurance, x.log(i, 2), Math.min(endurance, strokes));
            }
        }
    }

    private static void onTopOfWhatThereIs() {
        WhiskedDuchy x = Check.duchy("kw4e8;mn40l0");
        x.draught(0);
        x.strokes(0, 6);
        x.years(2, 5);
        check.due("two more the first day", x.log(1, 2), 8);
        check.due("he stands for it", x.log(1, 0), 32);
        check.due("at most eight the second", x.log(0, 2) <= 8, true);
        x = Check.duchy("kw4e8;mn40l0");
        x.draught(0);
        x.strokes(0, 8);
        x.years(1, 5);
        check.due("none more", x.log(0, 2), 8);
        check.due("how it stood", x.log(0, 0), 32);
    }

    private static void foldedIfHeCanBe() {
        for (int need = 18; need <= 22; need++) {
            WhiskedDuchy x = Check.duchy("kw4e5;mv7l0n" + need);
            x.draught(0);
            x.years(1, 5);
            check.due("who needs " + need + " of 20", x.log(0, 1), need > 20 ? 0 : 1);
            check.due("glory", x.count(9), need > 20 ? 0 : 7);
        }
        WhiskedDuchy x = Check.duchy("kw4e5;mv7l9n0");
        x.draught(0);
        x.fold(0);
        x.years(1, 5);
        check.due("not once more", x.log(0, 0), 20);
        check.due("he was in it", x.log(0, 1), 1);
        x = Check.duchy("ke1;mv7l9n0;mv7l9n0", "y:5");
        x.draught(0);
        x.years(40, 5);
        for (int i = 0; i < 40; i++) {
            check.due("0 at least", x.log(i, 0), 0);
            check.due("somebody was in it", x.log(i, 1) > 0, true);
        }
        check.due("that is no fall", x.count(10), 0);
    }

    private static void fallsByADoor() {
        WhiskedDuchy x = Check.duchy("ke1;mv7l0n0", "y:1");
        x.draught(9);
        x.years(60, 5);
        int fallen = 0;
        drawn = 5;
        for (int i = 59; i >= 0; i--) {
            draw(1);
            draw(10);
            draw(1);
            boolean isDoor = draw(10) < 9;
            fallen += isDoor ? 1 : 0;
            check.due("who was in it", x.log(i, 1), isDoor ? 0 : 1);
            check.due("how it stood", x.log(i, 0), isDoor ? 0 : 1);
        }
        check.due("fallen", x.count(10), fallen);
        check.due("glory of the other days", x.count(9), 7 * (60 - fallen));
        check.due("not all days", fallen < 60, true);
    }
}
