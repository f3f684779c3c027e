/** The bounds that part 3 of the Terms and promises 32 to 40 name for guesses, games, odds and comparisons, sentence by sentence. */
public final class GuessEdgesTest {
    private static final int NONE = WhiskedDuchy.NONE;
    private static final int HIDDEN = WhiskedDuchy.HIDDEN;
    private static final int ALL_PARTS = 1000000000;
    private static final Check check = new Check();

    public static void main(String[] args) {
        tenSeenAtMost();
        seenFrom1To40();
        seenFrom0To99();
        seenFromTheMorningOn();
        seenOfEachCook();
        fitsYolkFrom0To9();
        fitsRising();
        tryFrom1To40();
        tryLeastApart();
        tryAmongThoseThatFit();
        gameFrom0To5();
        gameCutBy4();
        gameOfTheTired();
        restsRising();
        restsAtTheEnds();
        oddsFrom0To8();
        oddsOfChances();
        oddsAtV();
        oddsOfEachPartCut();
        sharesFrom0To999();
        mostOfSeveral();
        freshest();
        inAndCould();
        weightAndValue();
        doorsUntil0();
        aheadFrom1To9999();
        aheadWithin999();
        check.finish();
    }

    private static void fitting(String what, WhiskedDuchy x, int... yolks) {
        check.due(what + ": fits(NONE)", x.fits(NONE), yolks.length);
        for (int i = 0; i < yolks.length; i++) {
            check.due(what + ": fits(" + i + ")", x.fits(i), yolks[i]);
        }
        check.due(what + ": fits(" + yolks.length + ")", x.fits(yolks.length), NONE);
        check.due(what + ": fits(-2)", x.fits(-2), NONE);
    }

    // ---- what was seen ----

    private static void tenSeenAtMost() {
        WhiskedDuchy x = Check.duchy("kw9;m");
        for (int i = 1; i <= 10; i++) {
            check.due("seen", x.seen(0, 1, 10 - i, i > 1), i);
            check.due("count(12)", x.count(12), i);
        }
        fitting("all ten count", x, 1);
        check.due("an eleventh", x.seen(0, 1, 9, true), NONE);
        fitting("it does not count", x, 1);
        check.due("count(12)", x.count(12), 10);
        Check.tell(x, 0, "kw9;m");
        check.due("gone with another duchy", x.count(12), 0);
        check.due("seen", x.seen(0, 1, 9, false), 1);
        fitting("this one alone", x, 1, 2, 3, 4, 5, 6, 7, 8, 9);
    }

    private static void seenFrom1To40() {
        WhiskedDuchy x = Check.duchy("kw9;m", "y:n=0&y<2?3;y:n=39&y<5?4");
        check.due("behind 0", x.seen(0, 0, 0, true), NONE);
        check.due("behind 41", x.seen(0, 41, 0, true), NONE);
        check.due("behind 40", x.seen(0, 40, 4, true), 1);
        fitting("behind 40", x, 0, 1, 2, 3, 4);
        check.due("behind 39", x.seen(0, 39, 3, false), 2);
        fitting("behind 39", x, 2, 3, 4);
        check.due("behind 1", x.seen(0, 1, 3, true), 3);
        fitting("behind 1", x);
    }

    private static void seenFrom0To99() {
        WhiskedDuchy x = Check.duchy("ke40;m", "y:9");
        check.due("at -1", x.seen(0, 1, -1, true), NONE);
        check.due("at 100", x.seen(0, 1, 100, false), NONE);
        check.due("at 0 or more", x.seen(0, 1, 0, true), 1);
        fitting("at 0 or more", x, 0, 1, 2, 3, 4, 5, 6, 7, 8, 9);
        check.due("at 99 or more", x.seen(0, 11, 99, true), 2);
        fitting("at 99 or more", x, 0, 1, 2, 3, 4, 5, 6, 7, 8, 9);
        check.due("not at 99 or more", x.seen(0, 10, 99, false), 3);
        fitting("not at 99 or more", x, 0, 1, 2, 3, 4, 5, 6, 7, 8, 9);
        check.due("not at 0 or more", x.seen(0, 1, 0, false), 4);
        fitting("not at 0 or more", x);
    }

    private static void seenFromTheMorningOn() {
        WhiskedDuchy x = Check.duchy("sy9;kw5e1;kw9e20;m");
        x.strokes(1, 15);
        x.strokes(0, 1);
        check.due("endurance does not matter", x.seen(0, 10, 50, true), 1);
        fitting("as in the morning, not as now", x, 0);
        check.due("nor how tired he is", x.seen(0, 12, 54, true), 2);
        fitting("less by three behind ten", x, 0);
        check.due("nor 55", x.seen(0, 12, 55, true), 3);
        fitting("nor 55", x);
        x = Check.duchy("sy9p99;kw5;m");
        x.seen(0, 1, 6, true);
        fitting("by wrist 5", x);
        x.practise(0);
        fitting("by wrist 6, as now", x, 0);
        x.practise(0);
        fitting("by wrist 7, as now", x, 0, 1);
        x.yolk();
        fitting("yolk as now does not matter", x, 0, 1);
    }

    private static void seenOfEachCook() {
        WhiskedDuchy x = Check.duchy("kw1;kw3;kw5;kw9;m");
        x.seen(3, 1, 3, true);
        fitting("by the last cook", x, 0, 1, 2, 3, 4, 5, 6);
        x.seen(2, 1, 5, false);
        fitting("by another", x, 1, 2, 3, 4, 5, 6);
        x.seen(1, 2, 1, false);
        fitting("by another", x, 3, 4, 5, 6);
        x.seen(0, 40, 1, false);
        fitting("by the first", x, 3, 4, 5, 6);
        x.seen(3, 2, 10, true);
        fitting("by the last once more", x, 3, 4);
    }

    private static void fitsYolkFrom0To9() {
        WhiskedDuchy x = Check.duchy("k;m");
        fitting("nothing seen", x, 0, 1, 2, 3, 4, 5, 6, 7, 8, 9);
        x = Check.duchy("sa8c1;kw9;m", "y:y+1-a/8*c");
        x.seen(0, 1, 9, true);
        fitting("the last", x, 9);
        x = Check.duchy("sa8c1;kw9;m", "y:y+1-a/8*c");
        x.seen(0, 1, 1, false);
        fitting("the first", x, 0);
        x.seen(0, 2, 1, true);
        fitting("none", x);
    }

    private static void fitsRising() {
        WhiskedDuchy x = Check.duchy("k;m", "y:y/2*2=y?5");
        x.seen(0, 3, 15, true);
        fitting("the even ones", x, 0, 2, 4, 6, 8);
        x.seen(0, 1, 5, true);
        fitting("the even ones", x, 0, 2, 4, 6, 8);
        x = Check.duchy("k;m", "y:y/2*2=y?5");
        x.seen(0, 40, 1, false);
        fitting("the odd ones", x, 1, 3, 5, 7, 9);
    }

    private static void tryFrom1To40() {
        WhiskedDuchy x = Check.duchy("ke1;m", "y:n=0?1+4/[y+1]-y/4");
        check.due("at the first stroke", x.probe(0, 2), 1);
        x = Check.duchy("ke1;m", "y:n=39&y<5?1");
        check.due("at the fortieth", x.probe(0, 1), 40);
        x = Check.duchy("ke1;m", "y:n=38&y<5?1");
        check.due("at the thirty-ninth", x.probe(0, 1), 39);
        x = Check.duchy("ke1;m", "y:n=40&y<5?1");
        check.due("never: the fewest of all", x.probe(0, 1), 1);
        check.due("v 0: all alike", x.probe(0, 0), 1);
        check.due("v 99: all alike", x.probe(0, 99), 1);
        check.due("v 100", x.probe(0, 100), NONE);
        check.due("v -1", x.probe(0, -1), NONE);
        x = Check.duchy("ke1;m", "y:n<11&y<5?9");
        check.due("v 99 behind eleven", x.probe(0, 99), 11);
    }

    private static void tryLeastApart() {
        WhiskedDuchy x = Check.duchy("k;m", "y:n=0?3-[y+2]/3;y:n=2&y<5?9;y:0");
        check.due("five and five at the third, not two and eight", x.probe(0, 9), 3);
        x = Check.duchy("k;m", "y:n=3&y>3?5;y:n=5&y=0?5");
        check.due("six and four, then seven and three", x.probe(0, 5), 4);
        x = Check.duchy("k;m", "y:n=3&y>6?5;y:n=5&y=0?5;y:n=7&y=1?5");
        check.due("five and five at last", x.probe(0, 5), 8);
        x = Check.duchy("k;m", "y:n=3&y>3?5");
        check.due("of several the fewest", x.probe(0, 5), 4);
        x = Check.duchy("k;m", "y:n=1&y<2?5;y:n=3&y>5?5;y:n=6&y<6?0-5");
        check.due("six of ten as good as four of ten", x.probe(0, 5), 4);
        x.seen(0, 2, 5, true);
        check.due("of two alike", x.probe(0, 5), 1);
        x.seen(0, 9, 5, true);
        check.due("nothing fits", x.probe(0, 5), NONE);
        x = Check.duchy("k;m", "y:n=2&y=9?1");
        x.seen(0, 40, 1, true);
        check.due("of one alone: the fewest", x.probe(0, 1), 1);
    }

    private static void tryAmongThoseThatFit() {
        WhiskedDuchy x = Check.duchy("k;kw9;m", "y:n=1&y=9?5;y:n=2&y<5?5;y:n=3&y=8?5");
        check.due("among all: 0 to 4 against 5 to 9", x.probe(0, 5), 3);
        check.due("once more", x.probe(0, 5), 3);
        x.seen(0, 3, 5, false);
        check.due("among 5 to 8: none against four, then one against three", x.probe(0, 5), 4);
        x.seen(0, 4, 5, true);
        check.due("8 alone fits", x.fits(0), 8);
        check.due("of one alone: the fewest", x.probe(0, 5), 1);
        x = Check.duchy("k;m", "y:n=1&y=9?5;y:n=2&y=0?5");
        check.due("9 against the others, then 0 and 9", x.probe(0, 5), 3);
        x.seen(0, 3, 5, true);
        check.due("9 against 0", x.probe(0, 5), 2);
        x = Check.duchy("kw5;kw9;m");
        check.due("by wrist 5", x.probe(0, 5), 5);
        check.due("by wrist 9", x.probe(1, 5), 1);
        check.due("by wrist 9: 5 a stroke", x.probe(1, 45), 9);
        check.due("by wrist 5 again", x.probe(0, 5), 5);
    }

    // ---- games ----

    private static void gameFrom0To5() {
        WhiskedDuchy x = Check.duchy("kw4;kw8;m");
        check.due("game(0, 1, 0, 0, 0)", x.game(0, 1, 0, 0, 0), 0);
        check.due("game(0, 1, 0, 0, 1)", x.game(0, 1, 0, 0, 1), 0);
        check.due("game(0, 1, 5, 0, 0)", x.game(0, 1, 5, 0, 0), 0);
        check.due("game(0, 1, 5, 0, 1)", x.game(0, 1, 5, 0, 1), 5);
        check.due("game(0, 1, 0, 5, 0)", x.game(0, 1, 0, 5, 0), 10);
        check.due("game(0, 1, 0, 5, 1)", x.game(0, 1, 0, 5, 1), 5);
        check.due("game(0, 1, 5, 5, 0)", x.game(0, 1, 5, 5, 0), 10);
        check.due("game(0, 1, 5, 5, 1)", x.game(0, 1, 5, 5, 1), 10);
        check.due("game(0, 1, 6, 5, 1)", x.game(0, 1, 6, 5, 1), HIDDEN);
        check.due("game(0, 1, 5, 6, 1)", x.game(0, 1, 5, 6, 1), HIDDEN);
        check.due("game(0, 1, -1, 5, 1)", x.game(0, 1, -1, 5, 1), HIDDEN);
        check.due("game(0, 1, 5, -1, 1)", x.game(0, 1, 5, -1, 1), HIDDEN);
        check.due("game(0, 0, 0, 0, 0)", x.game(0, 0, 0, 0, 0), HIDDEN);
    }

    private static void gameCutBy4() {
        for (int v : new int[] {0, 1, 3, 4, 5, 7, 8, 95, 96, 99}) {
            WhiskedDuchy x = Check.standing("ke40;k;m", v);
            check.due("by 4, cut: " + v, x.game(0, 1, 0, 0, 0), v / 4);
        }
        WhiskedDuchy x = Check.standing("kw9e40;kw9;m", 99);
        x.law(0);
        check.due("99 at most", x.game(0, 1, 5, 5, 0), 24 - 5);
        x.law(Check.tell(x, 1, "y:0-9"));
        check.due("nine less each", x.game(0, 1, 5, 5, 0), 9 / 4 - 5);
        x = Check.standing("kw9e40;kw9;m", 9);
        x.law(Check.tell(x, 1, "y:0-9"));
        check.due("0 at least, and less than nothing", x.game(0, 1, 5, 3, 0), -5);
        check.due("0 at least, and less than nothing", x.game(0, 1, 5, 3, 1), -3);
        x = Check.duchy("kw5;kw3;m", "y:n<3?w;y:9-w");
        check.due("the first, then the other", x.game(0, 1, 3, 2, 0), (15 + 12) / 4 - 3);
        check.due("the first, then the other", x.game(1, 0, 3, 2, 0), (9 + 8) / 4 - 3);
    }

    private static void gameOfTheTired() {
        WhiskedDuchy x = Check.duchy("kw8e5;kw4e5;m");
        x.strokes(0, 5);
        x.strokes(1, 5);
        x.law(Check.tell(x, 1, "y:4"));
        check.due("as if none was tired", x.game(0, 1, 5, 5, 0), (60 + 39) / 4 - 5);
        check.due("as if none was tired", x.game(1, 0, 1, 0, 0), (60 + 4) / 4 - 1);
        check.due("he still can't", x.strokes(0, 1), NONE);
    }

    private static void restsOf(String what, WhiskedDuchy x, int... rests) {
        check.due(what + ": rests(0, 1, NONE)", x.rests(0, 1, NONE), rests.length);
        for (int i = 0; i < rests.length; i++) {
            check.due(what + ": rests(0, 1, " + i + ")", x.rests(0, 1, i), rests[i]);
        }
        check.due(what + ": rests(0, 1, " + rests.length + ")", x.rests(0, 1, rests.length), NONE);
        check.due(what + ": rests(0, 1, -2)", x.rests(0, 1, -2), NONE);
    }

    private static void restsRising() {
        restsOf("nothing to be had", Check.duchy("k;k;m", "y:0"), 0);
        restsOf("more than its price", Check.duchy("k;k;m", "y:9"), 55);
        restsOf("just its price", Check.duchy("k;k;m", "y:4"),
            0, 1, 2, 3, 4, 5, 10, 11, 12, 13, 14, 15, 20, 21, 22, 23, 24, 25,
            30, 31, 32, 33, 34, 35, 40, 41, 42, 43, 44, 45, 50, 51, 52, 53, 54, 55);
        restsOf("more for one than its price", Check.duchy("kw9;kw1;m", "y:w"), 50);
        restsOf("more for the other than its price", Check.duchy("kw1;kw9;m", "y:w"), 5);
    }

    private static void restsAtTheEnds() {
        WhiskedDuchy x = Check.standing("ke40;k;m", 99);
        x.law(0);
        restsOf("it stands best", x, 0);
        x = Check.standing("ke40;k;m", 90);
        x.law(0);
        restsOf("one stroke more is enough: 90, 99", x, 1, 10);
        x = Check.standing("ke40;k;m", 50);
        x.law(0);
        restsOf("five in all, and a sixth just for its price", x, 5, 14, 15, 23, 24, 32, 33, 41, 42, 50, 51);
        x = Check.standing("ke40;k;m", 0);
        x.law(Check.tell(x, 1, "y:0-9"));
        restsOf("less by each, at 0", x, 0);
        x.law(Check.tell(x, 1, "y:n<4?0;y:9"));
        restsOf("two ways", x, 0, 55);
    }

    // ---- odds ----

    private static void oddsFrom0To8() {
        WhiskedDuchy x = Check.standing("sa0;ke40;m", 50);
        check.due("odds(0, 50, 50)", x.odds(0, 50, 50), ALL_PARTS);
        check.due("odds(0, 50, 51)", x.odds(0, 50, 51), 0);
        check.due("odds(0, 100, 50)", x.odds(0, 100, 50), ALL_PARTS);
        check.due("odds(8, 0, 42)", x.odds(8, 0, 42), ALL_PARTS);
        check.due("odds(8, 0, 43)", x.odds(8, 0, 43), 0);
        check.due("odds(8, 50, 42)", x.odds(8, 50, 42), 3906250);
        check.due("odds(9, 50, 0)", x.odds(9, 50, 0), NONE);
        check.due("odds(-1, 50, 0)", x.odds(-1, 50, 0), NONE);
    }

    private static void oddsOfChances() {
        WhiskedDuchy x = Check.standing("sa0;ke40;m", 50);
        check.due("chance 0", x.odds(1, 0, 49), ALL_PARTS);
        check.due("chance 1", x.odds(1, 1, 49), 990000000);
        check.due("chance 99", x.odds(1, 99, 49), 10000000);
        check.due("chance 100", x.odds(1, 100, 49), 0);
        check.due("chance 100", x.odds(1, 100, 24), ALL_PARTS);
        check.due("chance 100", x.odds(1, 100, 25), 0);
        check.due("chance 101", x.odds(1, 101, 0), NONE);
        check.due("chance -1", x.odds(1, -1, 0), NONE);
        check.due("the door is ahead of the hour", x.odds(2, 100, 11), ALL_PARTS);
        check.due("the door is ahead of the hour", x.odds(2, 100, 12), 0);
    }

    private static void oddsAtV() {
        WhiskedDuchy x = Check.standing("sa0;ke40;mn0l0w9", 99);
        check.due("v 0", x.odds(8, 37, 0), ALL_PARTS);
        check.due("v 99", x.odds(0, 37, 99), ALL_PARTS);
        check.due("v 99 behind an hour", x.odds(1, 0, 99), 0);
        check.due("v 100", x.odds(0, 37, 100), NONE);
        check.due("v -1", x.odds(0, 37, -1), NONE);
        x.fold(0);
        check.due("by its weight", x.odds(1, 0, 96), ALL_PARTS);
        check.due("by its weight", x.odds(1, 0, 97), 0);
        x = Check.standing("sa0;ke40;mn0l0w9", 1);
        x.fold(0);
        check.due("it falls", x.odds(1, 50, 1), 0);
        check.due("it falls", x.odds(8, 50, 0), ALL_PARTS);
        x.sugar();
        x.sugar();
        x.sugar();
        check.due("it does not sink, but for doors", x.odds(8, 50, 1), 3906250);
    }

    private static void oddsOfEachPartCut() {
        for (int chance : new int[] {0, 1, 7, 33, 50, 67, 93, 99, 100}) {
            WhiskedDuchy x = Check.standing("sa0;ke40;m", 99);
            long closed = ALL_PARTS;
            long open = ALL_PARTS;
            for (int n = 1; n <= 8; n++) {
                closed -= closed * chance / 100;
                open = open * chance / 100;
                check.due("no door in " + n + " by " + chance, x.odds(n, chance, 99 - n), closed);
                check.due("none stands higher in " + n + " by " + chance, x.odds(n, chance, 99 - n + 1), 0);
                if (lowest(n) > 0) {
                    check.due("all but doors alone in " + n + " by " + chance,
                        ALL_PARTS - x.odds(n, chance, lowest(n) + 1), open);
                }
            }
        }
        WhiskedDuchy x = Check.standing("sa0;ke40;m", 99);
        check.due("the last part of all is left closed", x.odds(8, 99, 91), 1);
        check.due("no other run stands so high", x.odds(8, 99, 46), 1);
    }

    /** How it stands from 99 behind so many doors, each with an hour behind it. */
    private static int lowest(int n) {
        int stood = 99;
        for (int i = 0; i < n; i++) {
            stood = Math.max(0, stood / 2 - 1);
        }
        return stood;
    }

    // ---- shares and comparisons ----

    private static void sharesFrom0To999() {
        WhiskedDuchy x = Check.duchy("kw1;kw9;kw9;kw9;m");
        check.due("shares(0, 0)", x.shares(0, 0), 0);
        check.due("shares(0, 27)", x.shares(0, 27), 0);
        check.due("shares(0, 28)", x.shares(0, 28), 1);
        check.due("shares(3, 3)", x.shares(3, 3), 0);
        check.due("shares(3, 4)", x.shares(3, 4), 1);
        check.due("shares(3, 999)", x.shares(3, 999), 321);
        check.due("shares(3, 1000)", x.shares(3, 1000), NONE);
        check.due("shares(3, -1)", x.shares(3, -1), NONE);
        check.due("shares(4, 1)", x.shares(4, 1), NONE);
        x = Check.duchy("kw1;m");
        check.due("one has all", x.shares(0, 999), 999);
        check.due("one has all", x.shares(0, 1), 1);
        x = Check.duchy("kw5;kw5;m");
        x.practise(1);
        check.due("wrists as now", x.shares(1, 11), 6);
        check.due("wrists as now", x.shares(0, 11), 5);
    }

    private static void mostOfSeveral() {
        WhiskedDuchy x = Check.duchy("kw4;kw5;kw5;mw1v9n10;mw9v1n20;mw9v9n40;mw9v9n40");
        check.due("heaviest", x.most(0), 1);
        check.due("dearest", x.most(1), 0);
        check.due("stiffest", x.most(2), 2);
        check.due("strongest", x.most(3), 1);
        check.due("freshest", x.most(4), 0);
        x = Check.duchy("kw4;kw4;kw4;kw4;m;m;m;m;m;m;m");
        for (int what = 0; what < 5; what++) {
            check.due("of several the lowest: " + what, x.most(what), 0);
        }
        x = Check.duchy("kw1e1;kw1e1;kw1e1;kw2e2;m;m;m;m;m;m;mw3v4n11");
        for (int what = 0; what < 5; what++) {
            check.due("the last: " + what, x.most(what), what < 3 ? 6 : 3);
        }
        x = Check.duchy("k;mw0v0n0");
        for (int what = 0; what < 5; what++) {
            check.due("the only one: " + what, x.most(what), 0);
        }
        x = Check.duchy("kw5e5;kw4e4;kw1e1;mw3v3n3;mw2v2n2;mw1v1n1");
        for (int what = 0; what < 5; what++) {
            check.due("the first: " + what, x.most(what), 0);
        }
        x = Check.duchy("kw8;kw8;m");
        x.practise(1);
        check.due("wrist as now", x.most(3), 1);
        x.practise(0);
        check.due("of several the lowest", x.most(3), 0);
        x.strokes(0, 1);
        x.fold(0);
        check.due("who is in it, too", x.most(0), 0);
    }

    private static void freshest() {
        WhiskedDuchy x = Check.duchy("ke5;ke4;ke3;m");
        check.due("the most left", x.most(4), 0);
        x.strokes(0, 1);
        check.due("of several the lowest", x.most(4), 0);
        x.strokes(0, 1);
        check.due("the most left", x.most(4), 1);
        x.strokes(1, 1);
        check.due("of several the lowest", x.most(4), 0);
        x.strokes(0, 3);
        x.strokes(1, 3);
        check.due("the one who is left", x.most(4), 2);
        x.strokes(2, 3);
        check.due("none left: the lowest", x.most(4), 0);
        x.days(1);
        check.due("in the morning", x.most(4), 0);
    }

    private static void inAndCould() {
        WhiskedDuchy x = Check.standing("ke40;mn0l0;mn9l0;mn10l0;mn11l0;mn40l0;mn10l1;mn0l0", 10);
        check.due("in: nobody", x.most(5), 0);
        check.due("could: 0, 1, 2, 5, 6", x.most(6), 1 + 2 + 4 + 32 + 64);
        x.fold(0);
        check.due("in: 0", x.most(5), 1);
        check.due("could: not who is in it", x.most(6), 2 + 4 + 32 + 64);
        x.fold(5);
        check.due("in: 0, 5", x.most(5), 33);
        check.due("could: nobody who needs 10", x.most(6), 2 + 64);
        x.fold(1);
        x.fold(6);
        check.due("in: 0, 1, 5, 6", x.most(5), 1 + 2 + 32 + 64);
        check.due("could: nobody", x.most(6), 0);
        x = Check.standing("ke40" + ";mn40l0".repeat(7), 40);
        check.due("could: all", x.most(6), 127);
        for (int m = 0; m < 7; m++) {
            x.fold(m);
        }
        check.due("in: all", x.most(5), 127);
        check.due("could: nobody", x.most(6), 0);
    }

    private static void weightAndValue() {
        WhiskedDuchy x = Check.duchy("k" + ";mn0w9v9".repeat(6) + ";mn0w0v0");
        check.due("weight of nobody", x.most(7), 0);
        check.due("value of nobody", x.most(9), 0);
        for (int m = 0; m < 7; m++) {
            x.fold(m);
            check.due("weight", x.most(7), Math.min(54, 9 * m + 9));
            check.due("value", x.most(9), Math.min(54, 9 * m + 9));
        }
        x.door();
        check.due("weight of nobody", x.most(7), 0);
        check.due("value of nobody", x.most(9), 0);
    }

    private static void doorsUntil0() {
        int[] stands = {0, 1, 2, 3, 4, 7, 8, 15, 16, 31, 32, 63, 64, 99};
        int[] doors = {0, 1, 2, 2, 3, 3, 4, 4, 5, 5, 6, 6, 7, 7};
        for (int i = 0; i < stands.length; i++) {
            WhiskedDuchy x = Check.standing("ke40;m", stands[i]);
            check.due("doors at " + stands[i], x.most(8), doors[i]);
        }
    }

    private static void aheadFrom1To9999() {
        WhiskedDuchy x = Check.duchy("k;mn0l0v9;mn0l0v2");
        x.fold(0);
        x.fold(1);
        check.due("ahead(1)", x.ahead(1), 1);
        check.due("ahead(0)", x.ahead(0), NONE);
        check.due("ahead(-1)", x.ahead(-1), NONE);
        check.due("ahead(11)", x.ahead(11), 1);
        check.due("ahead(12)", x.ahead(12), 2);
        check.due("ahead(9999)", x.ahead(9999), 909);
        check.due("ahead(10000)", x.ahead(10000), NONE);
        x.days(1);
        check.due("it is so", x.ahead(11), 0);
        check.due("it is so", x.ahead(1), 0);
        check.due("by nobody", x.ahead(12), NONE);
        x.fold(1);
        check.due("by two a day", x.ahead(12), 1);
        check.due("by two a day", x.ahead(13), 1);
        check.due("by two a day", x.ahead(14), 2);
    }

    private static void aheadWithin999() {
        WhiskedDuchy x = Check.duchy("k;mn0l0v1;mn0l0v9;mn0l0v0");
        x.fold(2);
        check.due("worth nothing", x.ahead(1), NONE);
        x.fold(0);
        check.due("ahead(999)", x.ahead(999), 999);
        check.due("ahead(1000)", x.ahead(1000), NONE);
        x.fold(1);
        check.due("ahead(9990)", x.ahead(9990), 999);
        check.due("ahead(9991)", x.ahead(9991), NONE);
        x.days(1);
        x.fold(0);
        check.due("from 10 on", x.ahead(1009), 999);
        check.due("from 10 on", x.ahead(1010), NONE);
    }
}
