/** The bounds that part 2 of the Terms and promises 6 to 18 name for the bowl, the purse and the days, sentence by sentence. */
public final class BowlEdgesTest {
    private static final int NONE = WhiskedDuchy.NONE;
    private static final Check check = new Check();

    public static void main(String[] args) {
        standsFrom0To99();
        strokeWithin9();
        numbersWithinAMillion();
        divisionCutsTowards0();
        firstClauseThatHolds();
        lettersOfALaw();
        lessForEachTen();
        noMoreThanEndurance();
        eachOfFourTires();
        strokesOneTo40();
        foldsWhereItStandsSo();
        foldIsNoFall();
        sugarNineAtMost();
        doorAtHalf();
        hourByAge();
        hourByWeight();
        hourBySugar();
        hoursOneTo20();
        fallsWithSomebodyIn();
        practiseNineAtMost();
        yolkNoneAtLeast();
        purse999AtMost();
        purseOfADay();
        daysOneTo60();
        day999AtMost();
        glory9999AtMost();
        morning();
        check.finish();
    }

    // ---- what a stroke gives ----

    private static void standsFrom0To99() {
        check.due("it stands at 0 at first", Check.duchy("k;m").count(6), 0);
        for (int v = 89; v <= 99; v++) {
            WhiskedDuchy x = Check.standing("ke40;m", v);
            x.law(0);
            check.due("nine more from " + v, x.behind(0, 1), Math.min(99, v + 9));
            check.due("nine more from " + v, x.strokes(0, 1), Math.min(99, v + 9));
            check.due("and nine more", x.strokes(0, 1), 99);
            check.due("count(6)", x.count(6), 99);
        }
        for (int v = 0; v <= 10; v++) {
            WhiskedDuchy x = Check.standing("ke40;m", v);
            x.law(Check.tell(x, 1, "y:0-9"));
            check.due("nine less from " + v, x.behind(0, 1), Math.max(0, v - 9));
            check.due("nine less from " + v, x.strokes(0, 1), Math.max(0, v - 9));
            check.due("and nine less", x.strokes(0, 1), 0);
        }
    }

    private static void gives(String law, int want) {
        WhiskedDuchy x = Check.standing("sa7y3c1;ke40;kw6;m", 40);
        x.law(Check.tell(x, 1, law));
        check.due("what a stroke gives by " + law, x.behind(1, 1) - 40, want);
        check.due("what a stroke gives by " + law, x.strokes(1, 1) - 40, want);
    }

    private static void strokeWithin9() {
        for (int worth = -11; worth <= 11; worth++) {
            gives("y:" + (worth < 0 ? "0-" + -worth : "" + worth), Math.max(-9, Math.min(9, worth)));
        }
        gives("y:9999*9999", 9);
        gives("y:0-9999*9999", -9);
        for (int wrist = 1; wrist <= 9; wrist++) {
            check.due("without a law", Check.duchy("kw" + wrist + ";m").strokes(0, 1), wrist);
            check.due("with copper", Check.duchy("sc1;kw" + wrist + ";m").strokes(0, 1), Math.min(9, wrist + 2));
        }
        for (int yolk = 0; yolk <= 9; yolk++) {
            WhiskedDuchy x = Check.standing("sy" + yolk + ";ke40;kw1;m", 90);
            check.due("behind ten, with yolk", x.strokes(1, 1), 90 + Math.max(-9, 1 - yolk - 3));
        }
    }

    /** M stands for 999,999, which is too long for a number. */
    private static void givesWithM(String law, int want) {
        gives(law.replace("M", "[999*1000+999]"), want);
    }

    private static void numbersWithinAMillion() {
        givesWithM("y:M+1-M", 1);
        givesWithM("y:M+2-M", 1);
        givesWithM("y:M+9999-M", 1);
        givesWithM("y:M-M", 0);
        givesWithM("y:1000*1000-M", 1);
        givesWithM("y:1001*1000-M", 1);
        givesWithM("y:9999*9999-M", 1);
        givesWithM("y:[0-1001]*[0-1000]-M", 1);
        givesWithM("y:0-M-1+M", -1);
        givesWithM("y:0-M-2+M", -1);
        givesWithM("y:0-M-9999+M", -1);
        givesWithM("y:[0-1000]*1000+M", -1);
        givesWithM("y:[0-1001]*1000+M", -1);
        givesWithM("y:1001*[0-1000]+M", -1);
        givesWithM("y:[0-9999]*9999+M", -1);
        givesWithM("y:0-M-[M+1]+M", -1);
        givesWithM("y:[M+1]-[0-M-1]-M", 1);
        givesWithM("y:9999*9999*9999*9999*9999*9999-M", 1);
        givesWithM("y:1001*1000/1000-999", 1);
        givesWithM("y:M*M/M", 1);
        gives("y:9999*9999=1000*1000?5", 5);
        gives("y:9999*9999>1000*1000?5", 0);
        gives("y:[0-9999]*9999=0-1000*1000?5", 5);
        gives("y:[0-9999]*9999<0-1000*1000?5", 0);
        gives("y:9999*9999/[0-1]=0-1000*1000?5", 5);
    }

    private static void divisionCutsTowards0() {
        gives("y:7/2", 3);
        gives("y:[0-7]/2", -3);
        gives("y:7/[0-2]", -3);
        gives("y:[0-7]/[0-2]", 3);
        gives("y:1/2", 0);
        gives("y:[0-1]/2", 0);
        gives("y:8/2", 4);
        gives("y:[0-8]/2", -4);
        gives("y:7/0", 0);
        gives("y:[0-7]/0", 0);
        gives("y:0/0", 0);
        gives("y:9999*9999/0", 0);
        gives("y:7/0+5", 5);
        gives("y:5+7/[w-6]", 5);
        gives("y:7/0*5+1", 1);
    }

    private static void firstClauseThatHolds() {
        gives("y:5", 5);
        gives("y:5;y:6", 5);
        gives("y:1=2?5", 0);
        gives("y:1=2?5;y:1=2?6", 0);
        gives("y:1=2?5;y:6", 6);
        gives("y:1=1?5;y:1=1?6", 5);
        gives("y:1=2?5;y:1=1?6;y:7", 6);
        gives("y:1=2?5;y:1=2?6;y:7;y:8", 7);
        gives("y:s<40?1;y:s>40?2;y:s=40?3", 3);
        gives("y:s<41?1", 1);
        gives("y:s>39?1", 1);
        String[] truths = {"1=2", "1=1"};
        for (int a = 0; a < 2; a++) {
            gives("y:!" + truths[a] + "?1", 1 - a);
            for (int b = 0; b < 2; b++) {
                gives("y:" + truths[a] + "|" + truths[b] + "?1", a | b);
                gives("y:" + truths[a] + "&" + truths[b] + "?1", a & b);
                gives("y:!" + truths[a] + "|" + truths[b] + "?1", 1 - a | b);
                gives("y:!" + truths[a] + "&" + truths[b] + "?1", 1 - a & b);
                gives("y:" + truths[a] + "&!" + truths[b] + "?1", a & 1 - b);
                gives("y:!" + truths[a] + "&!" + truths[b] + "?1", 1 - a & 1 - b);
                gives("y:!(" + truths[a] + "&" + truths[b] + ")?1", 1 - (a & b));
                gives("y:!(" + truths[a] + "|" + truths[b] + ")?1", 1 - (a | b));
            }
        }
        gives("y:1=1|1=1&1=2?1", 1);
        gives("y:(1=1|1=1)&1=2?1", 0);
        gives("y:!1=2&1=2?1", 0);
        gives("y:!(1=2&1=2)?1", 1);
        gives("y:!!1=1?1", 1);
        gives("y:!!!1=1?1", 0);
        gives("y:!!!!!!1=1?1", 1);
    }

    private static void lettersOfALaw() {
        gives("y:w", 6);
        gives("y:s-38", 2);
        gives("y:n", 8);
        gives("y:y", 3);
        gives("y:a", 7);
        gives("y:c", 1);
        WhiskedDuchy x = Check.duchy("sa0y9c0;kw9e40;m", "y:n=0?9;y:n=39?9");
        check.due("n at the first stroke is 0", x.strokes(0, 1), 9);
        check.due("and 39 at the fortieth", x.strokes(0, 38), 9);
        check.due("and 39 at the fortieth", x.strokes(0, 1), 18);
        x.law(Check.tell(x, 1, "y:w"));
        x.days(1);
        check.due("w is wrist as now", x.strokes(0, 1), 9);
        x.law(Check.tell(x, 1, "y:y-2"));
        x.yolk();
        check.due("y is yolk as now", x.behind(0, 1), 9 + 6);
    }

    private static void lessForEachTen() {
        int[] strokes = {0, 9, 10, 11, 19, 20, 21, 29, 30, 31, 35, 36, 40};
        int[] stands = {0, 36, 40, 41, 49, 50, 48, 32, 30, 25, 5, 0, 0};
        for (int i = 0; i < strokes.length; i++) {
            WhiskedDuchy x = Check.duchy("kw4e40;m");
            check.due("behind " + strokes[i], x.behind(0, strokes[i]), stands[i]);
            if (strokes[i] > 0) {
                check.due("strokes(0, " + strokes[i] + ")", x.strokes(0, strokes[i]), stands[i]);
            }
        }
        WhiskedDuchy x = Check.duchy("ke40;kw9e40;kw9e40;m", "y:9");
        x.strokes(0, 39);
        x.law(NONE);
        check.due("the fortieth: 9 less 9", x.strokes(1, 1), 99);
        check.due("the next: 9 less 12", x.strokes(1, 1), 96);
        x.law(0);
        x.strokes(1, 28);
        x.law(NONE);
        check.due("the seventieth: 9 less 18 is -9", x.strokes(1, 1), 90);
        check.due("the next: 9 less 21, held", x.strokes(1, 1), 81);
        x.days(1);
        check.due("another morning", x.strokes(1, 1), 9);
    }

    private static void noMoreThanEndurance() {
        for (int endurance : new int[] {1, 2, 15, 39, 40}) {
            WhiskedDuchy x = Check.duchy("ke" + endurance + ";ke1;m");
            check.due("more than endurance", x.strokes(0, endurance + 1), NONE);
            check.due("out of bounds only above 40", x.status(1), endurance == 40 ? 1 : 0);
            check.due("all of it", x.strokes(0, endurance) != NONE, true);
            check.due("how tired", x.cook(0, 2), endurance);
            check.due("not one more", x.strokes(0, 1), NONE);
            check.due("status(3)", x.status(3), endurance == 40 ? 1 : 2);
            check.due("the other is not tired", x.cook(1, 2), 0);
            check.due("the other can", x.strokes(1, 1) != NONE, true);
            check.due("how many there were", x.count(7), endurance + 1);
            x.days(1);
            check.due("nobody is tired", x.cook(0, 2) + x.cook(1, 2), 0);
            check.due("all of it once more", x.strokes(0, endurance) != NONE, true);
        }
    }

    private static void eachOfFourTires() {
        WhiskedDuchy x = Check.duchy("ke1;ke2;ke3;ke4;m");
        for (int cook = 0; cook < 4; cook++) {
            for (int n = 1; n <= cook + 1; n++) {
                check.due("how many he has left", x.strokes(cook, cook + 3 - n), NONE);
                check.due("one more", x.strokes(cook, 1) != NONE, true);
                check.due("how tired", x.cook(cook, 2), n);
            }
            check.due("not one more", x.strokes(cook, 1), NONE);
            check.due("behind he can none", x.behind(cook, 40), x.count(6));
        }
        check.due("strokes of all", x.count(7), 10);
        x.days(1);
        for (int cook = 0; cook < 4; cook++) {
            check.due("nobody is tired", x.cook(cook, 2), 0);
        }
    }

    private static void strokesOneTo40() {
        WhiskedDuchy x = Check.duchy("kw1e40;m");
        check.due("strokes(0, 1)", x.strokes(0, 1), 1);
        x.undo();
        check.due("strokes(0, 40)", x.strokes(0, 40), 0);
        check.due("count(7)", x.count(7), 40);
        check.due("one act", x.count(14), 1);
    }

    // ---- folding ----

    private static void foldsWhereItStandsSo() {
        for (int need : new int[] {0, 1, 10, 39, 40}) {
            for (int v = Math.max(0, need - 1); v <= need + 1; v++) {
                WhiskedDuchy x = Check.standing("ke40;mn" + need + "l0", v);
                check.due("needs " + need + ", stands at " + v, x.fold(0), v >= need ? v : NONE);
                check.due("whether in it", x.minister(0, 4), v >= need ? 1 : 0);
                check.due("status(3)", x.status(3), v >= need ? 0 : 1);
            }
        }
        WhiskedDuchy x = Check.standing("ke40;mn10l1;mn10;mn9l0;mn9", 10);
        check.due("just so", x.fold(0), 9);
        check.due("not for the next one", x.fold(1), NONE);
        check.due("but for another one", x.fold(2), 9);
        check.due("nor did he lose any", x.fold(3), 8);
        check.due("bits", x.most(5), 13);
    }

    private static void foldIsNoFall() {
        for (int v = 8; v <= 10; v++) {
            WhiskedDuchy x = Check.standing("ke40;mn0l9;mn0l9", v);
            check.due("nine less from " + v, x.fold(0), Math.max(0, v - 9));
            check.due("0 at least", x.fold(1), 0);
            check.due("both are in it", x.most(5), 3);
            check.due("it has not fallen", x.count(10), 0);
            x.law(Check.tell(x, 1, "y:0-9"));
            check.due("nor behind a stroke", x.strokes(0, 1), 0);
            check.due("both are in it", x.most(5), 3);
            check.due("it has not fallen", x.count(10), 0);
            x.sugar();
            x.practise(0);
            x.give(1);
            check.due("nor behind other acts", x.most(5), 3);
        }
    }

    // ---- sugar, doors, hours ----

    private static void sugarNineAtMost() {
        WhiskedDuchy x = Check.duchy("sp20;k;m");
        check.due("none at first", x.count(8), 0);
        for (int i = 1; i <= 9; i++) {
            check.due("sugar", x.sugar(), i);
            check.due("two from the purse", x.rule(3), 20 - 2 * i);
        }
        check.due("a tenth", x.sugar(), NONE);
        check.due("status(2)", x.status(2), 1);
        check.due("nothing from the purse", x.rule(3), 2);
        x.days(1);
        check.due("none in the morning", x.count(8), 0);
        check.due("one more", x.sugar(), 1);
        for (int purse = 0; purse <= 3; purse++) {
            x = Check.duchy("sp" + purse + ";k;m");
            check.due("sugar for " + purse, x.sugar(), purse < 2 ? NONE : 1);
            check.due("left of " + purse, x.rule(3), purse < 2 ? purse : purse - 2);
            check.due("status(3)", x.status(3), purse < 2 ? 1 : 0);
        }
    }

    private static void doorAtHalf() {
        for (int v : new int[] {0, 1, 2, 3, 4, 5, 50, 97, 98, 99}) {
            WhiskedDuchy x = Check.standing("ke40;m", v);
            check.due("a door at " + v, x.door(), v / 2);
            check.due("nobody is in it", x.count(10), 0);
        }
    }

    private static void hourByAge() {
        for (int age = 0; age <= 9; age++) {
            WhiskedDuchy x = Check.standing("sa" + age + ";ke40;m", 50);
            check.due("an hour at age " + age, x.hours(1), 49 - age / 3);
        }
    }

    private static void hourByWeight() {
        int[] weights = {0, 3, 4, 5, 7, 8, 9, 11, 12};
        for (int weight : weights) {
            int one = Math.min(9, weight);
            WhiskedDuchy x = Check.standing("sa0;ke40;mn0l0w" + one + ";mn0l0w" + (weight - one) + ";mn0l0w9", 50);
            x.fold(0);
            x.fold(1);
            check.due("an hour under " + weight, x.hours(1), 49 - weight / 4);
        }
        WhiskedDuchy x = Check.standing("sa9;ke40" + ";mn0l0w9".repeat(7), 99);
        for (int m = 0; m < 7; m++) {
            x.fold(m);
        }
        check.due("the most: 1, 3 and 15", x.hours(1), 80);
        check.due("and so on", x.hours(4), 4);
        check.due("0 at least", x.hours(1), 0);
        check.due("it falls", x.most(5), 0);
    }

    private static void hourBySugar() {
        for (int sugar = 0; sugar <= 9; sugar++) {
            WhiskedDuchy x = Check.standing("sa9;ke40;mn0l0w9", 50);
            x.fold(0);
            for (int i = 0; i < sugar; i++) {
                x.sugar();
            }
            check.due("an hour by " + sugar + " of sugar", x.hours(1), 50 - Math.max(0, 6 - sugar));
        }
    }

    private static void hoursOneTo20() {
        WhiskedDuchy x = Check.standing("sa0;ke40;m", 50);
        int acts = x.count(14);
        check.due("hours(1)", x.hours(1), 49);
        check.due("one act", x.count(14), acts + 1);
        check.due("hours(20)", x.hours(20), 29);
        check.due("twenty acts", x.count(14), acts + 21);
    }

    private static WhiskedDuchy inIt(int v, int ministers) {
        WhiskedDuchy x = Check.standing("sa0;ke40" + ";mn0l0w0".repeat(7), v);
        for (int m = 0; m < ministers; m++) {
            x.fold(m);
        }
        return x;
    }

    private static void falls(String by, WhiskedDuchy x, boolean is, int ministers) {
        check.due(by + ": who is in it", x.most(5), is ? 0 : (1 << ministers) - 1);
        check.due(by + ": fallen", x.count(10), is && ministers > 0 ? 1 : 0);
    }

    private static void fallsWithSomebodyIn() {
        for (int ministers : new int[] {0, 1, 2, 7}) {
            for (int v = 0; v <= 2; v++) {
                WhiskedDuchy x = inIt(v, ministers);
                x.door();
                falls("a door at " + v, x, v < 2, ministers);
                x = inIt(v, ministers);
                x.hours(1);
                falls("an hour at " + v, x, v < 2, ministers);
                x = inIt(v, ministers);
                x.sugar();
                x.hours(1);
                falls("an hour by which it does not sink, at " + v, x, v == 0, ministers);
                x = inIt(v, ministers);
                x.hours(20);
                falls("many hours at " + v, x, true, ministers);
                check.due("none of them is in it", x.minister(6, 4), 0);
            }
        }
        WhiskedDuchy x = inIt(0, 1);
        for (int i = 1; i <= 3; i++) {
            x.door();
            check.due("how often", x.count(10), i);
            x.fold(0);
        }
        x.days(1);
        check.due("still in the morning", x.count(10), 3);
        x.door();
        check.due("not with all out", x.count(10), 3);
    }

    // ---- the purse ----

    private static void practiseNineAtMost() {
        WhiskedDuchy x = Check.duchy("sp99;kw1;kw1;m");
        for (int wrist = 2; wrist <= 9; wrist++) {
            check.due("practise", x.practise(0), wrist);
            check.due("four from the purse", x.rule(3), 99 - 4 * (wrist - 1));
        }
        check.due("a ninth lesson", x.practise(0), NONE);
        check.due("status(2)", x.status(2), 1);
        check.due("wrist", x.cook(0, 0), 9);
        check.due("the other's", x.cook(1, 0), 1);
        x.days(1);
        check.due("it stays", x.cook(0, 0), 9);
        for (int purse = 3; purse <= 5; purse++) {
            x = Check.duchy("sp" + purse + ";kw8;m");
            check.due("practise for " + purse, x.practise(0), purse < 4 ? NONE : 9);
            check.due("left of " + purse, x.rule(3), purse < 4 ? 3 : purse - 4);
            check.due("status(3)", x.status(3), purse < 4 ? 1 : 0);
        }
    }

    private static void yolkNoneAtLeast() {
        WhiskedDuchy x = Check.duchy("sy9p99;k;m");
        for (int yolk = 8; yolk >= 0; yolk--) {
            check.due("yolk", x.yolk(), yolk);
            check.due("three from the purse", x.rule(3), 99 - 3 * (9 - yolk));
        }
        check.due("none", x.yolk(), NONE);
        check.due("status(2)", x.status(2), 1);
        x.days(1);
        check.due("it stays out", x.rule(1), 0);
        for (int purse = 2; purse <= 4; purse++) {
            x = Check.duchy("sy1p" + purse + ";k;m");
            check.due("yolk for " + purse, x.yolk(), purse < 3 ? NONE : 0);
            check.due("left of " + purse, x.rule(3), purse < 3 ? 2 : purse - 3);
            check.due("status(3)", x.status(3), purse < 3 ? 1 : 0);
        }
    }

    private static WhiskedDuchy withPurse(int purse) {
        WhiskedDuchy x = Check.duchy("sp0;k;m");
        for (int left = purse; left > 0; left -= 50) {
            x.give(Math.min(50, left));
        }
        return x;
    }

    private static void purse999AtMost() {
        check.due("give(1)", withPurse(0).give(1), 1);
        check.due("give(50)", withPurse(0).give(50), 50);
        for (int purse = 947; purse <= 951; purse++) {
            WhiskedDuchy x = withPurse(purse);
            check.due("give(50) to " + purse, x.give(50), purse > 949 ? NONE : purse + 50);
            check.due("the purse", x.rule(3), purse > 949 ? purse : purse + 50);
        }
        check.due("give(1) to 998", withPurse(998).give(1), 999);
        check.due("give(1) to 999", withPurse(999).give(1), NONE);
    }

    private static void purseOfADay() {
        for (int purse : new int[] {0, 1, 995, 996, 997, 998, 999}) {
            WhiskedDuchy x = withPurse(purse);
            x.days(1);
            check.due("a day more than " + purse, x.rule(3), Math.min(999, purse + 2));
            x.undo();
            x.draught(0);
            x.years(1, 3);
            check.due("a drawn day more than " + purse, x.rule(3), Math.min(999, purse + 2));
            x.days(60);
            check.due("60 days more", x.rule(3), Math.min(999, purse + 122));
        }
    }

    // ---- days ----

    private static void daysOneTo60() {
        WhiskedDuchy x = Check.duchy("k;m");
        check.due("day 0 at first", x.count(5), 0);
        check.due("days(1)", x.days(1), 1);
        check.due("days(60)", x.days(60), 61);
        check.due("days(61)", x.days(61), NONE);
        check.due("days(0)", x.days(0), NONE);
        check.due("status(1)", x.status(1), 2);
        check.due("status(4)", x.status(4), 0);
    }

    private static WhiskedDuchy onDay(int day) {
        WhiskedDuchy x = Check.duchy("k;mn0l0v9;mn0l0v9");
        for (int left = day; left > 0; left -= 60) {
            x.days(Math.min(60, left));
        }
        return x;
    }

    private static void day999AtMost() {
        for (int day = 937; day <= 941; day++) {
            check.due("60 from day " + day, onDay(day).days(60), day > 939 ? NONE : day + 60);
        }
        check.due("one from day 998", onDay(998).days(1), 999);
        check.due("two from day 998", onDay(998).days(2), NONE);
        WhiskedDuchy x = onDay(999);
        check.due("the last day", x.count(5), 999);
        x.fold(0);
        check.due("one from day 999", x.days(1), NONE);
        check.due("status(4)", x.status(4), 1);
        check.due("no glory by it", x.count(9), 0);
        check.due("he is still in it", x.most(5), 1);
        check.due("other acts go on", x.fold(1), 0);
        check.due("undone", x.undo() >= 0 && x.undo() >= 0 && x.undo() >= 0, true);
        check.due("the day ahead of it", x.count(5), 998);
        check.due("a day again", x.days(1), 999);
    }

    /** Who is worth most goes first: so every glory up to 42 more can be had. */
    private static void gloryOfADay(WhiskedDuchy x, int most) {
        int was = x.count(9);
        int in = 0;
        for (int m = 6; m >= 0; m--) {
            int value = x.minister(m, 1);
            if (was + in + value <= most) {
                x.fold(m);
                in += value;
            }
        }
        check.due("what would be", was + in, most);
        check.due("ahead", x.ahead(Math.min(9999, most)), 1);
        x.days(1);
        check.due("glory, were it " + most, x.count(9), Math.min(9999, most));
    }

    private static void glory9999AtMost() {
        WhiskedDuchy x = Check.duchy("k;mv1n0l0;mv2n0l0;mv4n0l0;mv8n0l0;mv9n0l0;mv9n0l0;mv9n0l0");
        check.due("none at first", x.count(9), 0);
        for (int i = 0; x.count(9) < 9999 - 60 * 42; i++) {
            x.years(60, i);
        }
        for (int i = 0; x.count(9) < 9999 - 42; i++) {
            x.years(1, i);
        }
        check.due("close below 9,999", x.count(9) < 9999 - 1, true);
        gloryOfADay(x, 9998);
        x.undo();
        check.due("undone", x.count(9) < 9998, true);
        while (x.most(5) != 0) {
            x.undo();
        }
        gloryOfADay(x, 9999);
        for (int m = 0; m < 7; m++) {
            x.fold(m);
        }
        x.days(1);
        check.due("9,999 at most", x.count(9), 9999);
        check.due("that is there", x.ahead(9999), 0);
        x.years(1, 5);
        check.due("9,999 at most by draws", x.count(9), 9999);
        x = Check.duchy("k;mv1n0l0;mv2n0l0;mv4n0l0;mv8n0l0;mv9n0l0;mv9n0l0;mv9n0l0");
        aboveAtOnce(x);
    }

    private static void aboveAtOnce(WhiskedDuchy x) {
        for (int i = 0; x.count(9) < 9999 - 60 * 42; i++) {
            x.years(60, i);
        }
        for (int i = 0; x.count(9) < 9999 - 41; i++) {
            x.years(1, i);
        }
        for (int m = 0; m < 7; m++) {
            x.fold(m);
        }
        check.due("more than 9,999 by this day", x.count(9) + x.most(9) > 9999, true);
        x.days(1);
        check.due("held", x.count(9), 9999);
    }

    private static void morning() {
        WhiskedDuchy x = Check.standing("sa9y4p90;ke40;k;mn0l0v9;mn0l0v8;m", 50);
        x.strokes(1, 3);
        x.fold(0);
        x.fold(1);
        x.sugar();
        x.practise(1);
        x.yolk();
        x.door();
        int stood = x.count(6);
        int strokes = x.count(7);
        int purse = x.rule(3);
        x.days(1);
        check.due("it stands at 0", x.count(6), 0);
        check.due("no strokes", x.count(7), 0);
        check.due("nobody tired", x.cook(0, 2) + x.cook(1, 2), 0);
        check.due("no sugar", x.count(8), 0);
        check.due("all out", x.most(5), 0);
        check.due("that is no fall", x.count(10), 0);
        check.due("glory", x.count(9), 17);
        check.due("the purse", x.rule(3), purse + 2);
        check.due("wrist stays", x.cook(1, 0), 5);
        check.due("yolk stays", x.rule(1), 3);
        check.due("age stays", x.rule(0), 9);
        check.due("how it stood", x.log(0, 0), stood);
        check.due("who was in it", x.log(0, 1), 3);
        check.due("strokes", x.log(0, 2), strokes);
        x.days(1);
        check.due("an empty day", x.log(0, 0) + x.log(0, 1) + x.log(0, 2), 0);
        check.due("no more glory", x.count(9), 17);
    }
}
