/** Promises 32 to 40: seen, fits, probe, game, rests, odds, shares, most, ahead. */
public final class GuessTest {
    private static final Check check = new Check();

    public static void main(String[] args) {
        seen();
        fits();
        probe();
        game();
        rests();
        odds();
        shares();
        most();
        ahead();
        check.finish();
    }

    private static void seen() {
        check.due("no duchy", new WhiskedDuchy().seen(0, 1, 0, true), -1);
        WhiskedDuchy x = Check.duchy("k;m");
        check.due("seen(1, ..)", x.seen(1, 1, 0, true), -1);
        check.due("seen(-1, ..)", x.seen(-1, 1, 0, true), -1);
        check.due("n 0", x.seen(0, 0, 0, true), -1);
        check.due("n 41", x.seen(0, 41, 0, true), -1);
        check.due("v -1", x.seen(0, 1, -1, true), -1);
        check.due("v 100", x.seen(0, 1, 100, true), -1);
        check.due("n 40, v 99", x.seen(0, 40, 99, false), 1);
        for (int i = 2; i <= 10; i++) {
            check.due("seen", x.seen(0, 1, 0, true), i);
        }
        check.due("there are ten", x.seen(0, 1, 0, true), -1);
        check.due("count(12)", x.count(12), 10);
        check.due("no status", x.status(0) + x.status(1), 0);
    }

    private static void fitting(WhiskedDuchy x, int... yolks) {
        check.due("fits(NONE)", x.fits(-1), yolks.length);
        for (int i = 0; i < yolks.length; i++) {
            check.due("fits(" + i + ")", x.fits(i), yolks[i]);
        }
        check.due("no more", x.fits(yolks.length), -1);
        check.due("fits(-2)", x.fits(-2), -1);
    }

    private static void fits() {
        check.due("no duchy", new WhiskedDuchy().fits(-1), -1);
        WhiskedDuchy x = Check.duchy("sy9c1;kw5e1;kw3;m");
        fitting(x, 0, 1, 2, 3, 4, 5, 6, 7, 8, 9);
        x.seen(0, 5, 20, true);
        fitting(x, 0, 1, 2, 3);
        x.seen(1, 1, 4, false);
        fitting(x, 2, 3);
        x.strokes(0, 1);
        fitting(x, 2, 3);
        x.practise(1);
        fitting(x, 3);
        x.undo();
        fitting(x, 2, 3);
        x.law(Check.tell(x, 1, "y:y+1"));
        fitting(x);
        x.law(-1);
        x.seen(0, 40, 1, false);
        fitting(x, 3);
        x.seen(0, 20, 30, true);
        fitting(x, 3);
        x.seen(0, 20, 75, true);
        fitting(x);
        check.due("nothing fits", x.probe(0, 1), -1);
    }

    private static void probe() {
        check.due("no duchy", new WhiskedDuchy().probe(0, 0), -1);
        WhiskedDuchy x = Check.duchy("kw9e1;kw5;m");
        check.due("probe(2, 0)", x.probe(2, 0), -1);
        check.due("probe(-1, 0)", x.probe(-1, 0), -1);
        check.due("probe(0, 100)", x.probe(0, 100), -1);
        check.due("probe(0, -1)", x.probe(0, -1), -1);
        check.due("all reach 0", x.probe(0, 0), 1);
        check.due("half of ten: yolk 0 to 4", x.probe(0, 5), 1);
        check.due("half of ten: 5 a stroke", x.probe(0, 20), 4);
        check.due("half of ten: 5 a stroke", x.probe(0, 22), 5);
        check.due("never half: 0 to 4 give more than 0", x.probe(1, 5), 5);
        check.due("never all", x.probe(1, 99), 1);
        x.law(Check.tell(x, 1, "y:n=39&y>4?1"));
        check.due("at the last stroke alone", x.probe(0, 1), 40);
        x.law(-1);
        x.seen(0, 1, 8, true);
        check.due("of 0 and 1", x.probe(0, 9), 1);
        check.due("of 0 and 1", x.probe(0, 41), 5);
        check.due("of 0 and 1 both alike", x.probe(0, 1), 1);
    }

    private static void game() {
        check.due("no duchy", new WhiskedDuchy().game(0, 1, 0, 0, 0), -1000000);
        WhiskedDuchy x = Check.duchy("kw5e1;kw3e1;m");
        check.due("game(0, 1, 0, 0, 0)", x.game(0, 1, 0, 0, 0), 0);
        check.due("as if none was tired", x.game(0, 1, 5, 5, 0), 5);
        check.due("the other", x.game(0, 1, 5, 0, 1), 6);
        check.due("the one", x.game(0, 1, 5, 0, 0), 1);
        check.due("less than nothing", x.game(1, 0, 1, 0, 0), -1);
        check.due("alike", x.game(1, 1, 1, 0, 0), -1000000);
        check.due("no such cook", x.game(2, 0, 1, 0, 0), -1000000);
        check.due("no such cook", x.game(0, -1, 1, 0, 0), -1000000);
        check.due("x 6", x.game(0, 1, 6, 0, 0), -1000000);
        check.due("x -1", x.game(0, 1, -1, 0, 0), -1000000);
        check.due("y 6", x.game(0, 1, 0, 6, 0), -1000000);
        check.due("y -1", x.game(0, 1, 0, -1, 0), -1000000);
        check.due("no such what", x.game(0, 1, 0, 0, 2), -1000000);
        check.due("no such what", x.game(0, 1, 0, 0, -1), -1000000);
        x.strokes(0, 1);
        check.due("from now on", x.game(0, 1, 1, 2, 1), (5 + 5 + 6) / 4 - 2);
        x = Check.duchy("kw5;kw3;m", "y:n<2?9;y:w=5?0;y:3");
        check.due("the first first", x.game(0, 1, 2, 2, 0), 24 / 4 - 2);
        check.due("the first first", x.game(1, 0, 3, 2, 0), 21 / 4 - 3);
    }

    private static void restsByGame(WhiskedDuchy duchy, int one, int other) {
        int[][] ones = new int[6][6];
        int[][] others = new int[6][6];
        for (int x = 0; x <= 5; x++) {
            for (int y = 0; y <= 5; y++) {
                ones[x][y] = duchy.game(one, other, x, y, 0);
                others[x][y] = duchy.game(one, other, x, y, 1);
            }
        }
        int found = 0;
        for (int x = 0; x <= 5; x++) {
            for (int y = 0; y <= 5; y++) {
                boolean isRest = true;
                for (int z = 0; z <= 5; z++) {
                    isRest &= ones[z][y] <= ones[x][y] && others[x][z] <= others[x][y];
                }
                if (isRest) {
                    check.due("rests(" + found + ")", duchy.rests(one, other, found), 10 * x + y);
                    found++;
                }
            }
        }
        check.due("rests(NONE)", duchy.rests(one, other, -1), found);
        check.due("no such one", duchy.rests(one, other, found), -1);
        check.due("no such one", duchy.rests(one, other, -2), -1);
    }

    private static void rests() {
        check.due("no duchy", new WhiskedDuchy().rests(0, 1, -1), -1);
        WhiskedDuchy x = Check.duchy("kw5;kw3;kw9e1;m");
        check.due("alike", x.rests(1, 1, -1), -1);
        check.due("no such cook", x.rests(0, 3, -1), -1);
        check.due("no such cook", x.rests(-1, 1, -1), -1);
        check.due("rests of 5 and 3", x.rests(0, 1, -1), 6);
        check.due("the first", x.rests(0, 1, 0), 22);
        restsByGame(x, 0, 1);
        restsByGame(x, 1, 0);
        restsByGame(x, 2, 1);
        x.strokes(0, 9);
        restsByGame(x, 0, 2);
        restsByGame(x, 1, 2);
        restsByGame(Check.duchy("kw1;kw1;m", "y:w+n*n-s/3"), 0, 1);
        restsByGame(Check.duchy("kw1;kw1;m", "y:n/2*2=n?9;y:0-4"), 1, 0);
    }

    private static void odds() {
        check.due("no duchy", new WhiskedDuchy().odds(0, 0, 0), -1);
        WhiskedDuchy x = Check.duchy("sa0;kw5;mw9n0l0");
        x.strokes(0, 8);
        check.due("n 9", x.odds(9, 0, 0), -1);
        check.due("n -1", x.odds(-1, 0, 0), -1);
        check.due("chance 101", x.odds(1, 101, 0), -1);
        check.due("chance -1", x.odds(1, -1, 0), -1);
        check.due("v 100", x.odds(1, 0, 100), -1);
        check.due("v -1", x.odds(1, 0, -1), -1);
        check.due("no hour", x.odds(0, 50, 40), 1000000000);
        check.due("no hour", x.odds(0, 50, 41), 0);
        check.due("no door", x.odds(8, 0, 32), 1000000000);
        check.due("no door", x.odds(8, 0, 33), 0);
        check.due("all doors", x.odds(2, 100, 8), 1000000000);
        check.due("all doors", x.odds(2, 100, 10), 0);
        check.due("one of two", x.odds(2, 30, 18), 490000000 + 210000000 + 210000000);
        check.due("closed then open: 19 - 1", x.odds(2, 30, 19), 490000000);
        check.due("behind all eight closed", x.odds(8, 33, 32), closedAll(8, 33));
        check.due("apart", x.count(6), 40);
        x.fold(0);
        check.due("by 3", x.odds(2, 30, 34), 490000000);
        check.due("by 3", x.odds(2, 30, 35), 0);
        check.due("it falls", x.odds(8, 100, 1), 0);
    }

    private static long closedAll(int hours, int chance) {
        long parts = 1000000000;
        for (int i = 0; i < hours; i++) {
            parts -= parts * chance / 100;
        }
        return parts;
    }

    private static void shares() {
        check.due("no duchy", new WhiskedDuchy().shares(0, 0), -1);
        WhiskedDuchy x = Check.duchy("kw5;kw3;kw1;kw9;m");
        check.due("shares(0, 100)", x.shares(0, 100), 27);
        check.due("shares(3, 999)", x.shares(3, 999), 499);
        check.due("shares(2, 17)", x.shares(2, 17), 0);
        check.due("shares(2, 18)", x.shares(2, 18), 1);
        check.due("shares(2, 0)", x.shares(2, 0), 0);
        check.due("shares(2, 1000)", x.shares(2, 1000), -1);
        check.due("shares(2, -1)", x.shares(2, -1), -1);
        check.due("shares(4, 1)", x.shares(4, 1), -1);
        x.practise(0);
        check.due("wrist as now", x.shares(0, 19), 6);
    }

    private static void most() {
        check.due("no duchy", new WhiskedDuchy().most(5), -1);
        WhiskedDuchy x = Check.duchy("kw3e5;kw5e4;kw5e5;mw1v5n4l1;mw7v5n9l1;mw7v1n9l0");
        int[] want = {1, 0, 1, 1, 0, 0, 0, 0, 0, 0};
        for (int what = 0; what < want.length; what++) {
            check.due("most(" + what + ")", x.most(what), want[what]);
        }
        check.due("most(10)", x.most(10), -1);
        check.due("most(-1)", x.most(-1), -1);
        x.practise(2);
        check.due("strongest now", x.most(3), 2);
        x.strokes(0, 3);
        check.due("freshest now", x.most(4), 2);
        check.due("could", x.most(6), 7);
        x.fold(0);
        check.due("could: not who is in it, nor who needs 9", x.most(6), 0);
        check.due("in", x.most(5), 1);
        x.strokes(1, 1);
        check.due("could", x.most(6), 6);
        x.fold(2);
        check.due("in", x.most(5), 5);
        check.due("weight", x.most(7), 8);
        check.due("value", x.most(9), 6);
        check.due("doors: 13, 6, 3, 1, 0", x.most(8), 4);
        check.due("apart", x.count(6), 13);
    }

    private static void ahead() {
        check.due("no duchy", new WhiskedDuchy().ahead(1), -1);
        WhiskedDuchy x = Check.duchy("kw9;mv7n0l0;mv3n0l0");
        check.due("ahead(0)", x.ahead(0), -1);
        check.due("ahead(10000)", x.ahead(10000), -1);
        check.due("by nobody", x.ahead(1), -1);
        x.fold(0);
        x.fold(1);
        check.due("ahead(10)", x.ahead(10), 1);
        check.due("ahead(11)", x.ahead(11), 2);
        check.due("ahead(9990)", x.ahead(9990), 999);
        check.due("ahead(9991)", x.ahead(9991), -1);
        x.days(1);
        check.due("it is so", x.ahead(10), 0);
        check.due("nobody is in it", x.ahead(11), -1);
        x.fold(1);
        check.due("behind the glory there is", x.ahead(14), 2);
        check.due("997 + 10", x.ahead(3007), 999);
        check.due("998 + 10", x.ahead(3008), -1);
    }
}
