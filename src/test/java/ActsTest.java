import java.util.NoSuchElementException;

/** Promises 6 to 18 and 21 to 23: what was told, acts, status, undo, log. */
public final class ActsTest {
    private static final Check check = new Check();

    public static void main(String[] args) {
        told();
        ministers();
        laws();
        worths();
        strokes();
        fold();
        sugar();
        doors();
        hours();
        purse();
        days();
        undo();
        undoOfDays();
        log();
        statusOfSeveral();
        check.finish();
    }

    private static void told() {
        WhiskedDuchy x = Check.duchy("k;m");
        int[] rules = {2, 0, 0, 20};
        for (int what = 0; what < 4; what++) {
            check.due("rule without", x.rule(what), rules[what]);
        }
        check.due("rule(4)", x.rule(4), -1);
        check.due("rule(-1)", x.rule(-1), -1);
        check.due("wrist without", x.cook(0, 0), 4);
        check.due("endurance without", x.cook(0, 1), 15);
        check.due("tired", x.cook(0, 2), 0);
        check.due("cook(0, 3)", x.cook(0, 3), -1);
        check.due("cook(0, -1)", x.cook(0, -1), -1);
        check.due("cook(1, 0)", x.cook(1, 0), -1);
        check.due("cook(-1, 0)", x.cook(-1, 0), -1);
        x = Check.duchy("kw9e1;mw1v2n3l4;sa9y8c1p7;ke40w1");
        int[] others = {9, 8, 1, 7};
        for (int what = 0; what < 4; what++) {
            check.due("rule", x.rule(what), others[what]);
        }
        check.due("wrist", x.cook(0, 0), 9);
        check.due("endurance", x.cook(0, 1), 1);
        check.due("wrist", x.cook(1, 0), 1);
        check.due("endurance", x.cook(1, 1), 40);
    }

    private static int minister(WhiskedDuchy x, int minister, int what) {
        try {
            return x.minister(minister, what);
        } catch (NoSuchElementException e) {
            return -77;
        }
    }

    private static void ministers() {
        check.due("minister of no duchy", minister(new WhiskedDuchy(), 0, 0), -77);
        WhiskedDuchy x = Check.duchy("k;m;mw1v2n0l4");
        int[] without = {2, 3, 10, 1, 0};
        int[] other = {1, 2, 0, 4, 0};
        for (int what = 0; what < 5; what++) {
            check.due("minister without", minister(x, 0, what), without[what]);
            check.due("minister", minister(x, 1, what), other[what]);
        }
        check.due("no such minister", minister(x, 2, 0), -77);
        check.due("no such minister", minister(x, -1, 0), -77);
        check.due("no such what", minister(x, 0, 5), -77);
        check.due("no such what", minister(x, 0, -1), -77);
        x.fold(1);
        check.due("in it", minister(x, 1, 4), 1);
        check.due("not in it", minister(x, 0, 4), 0);
    }

    private static void laws() {
        WhiskedDuchy x = Check.duchy("k;m");
        check.due("law(0) of none", x.law(0), false);
        check.due("law(NONE)", x.law(-1), true);
        check.due("law(-2)", x.law(-2), false);
        Check.tell(x, 1, "y:7");
        Check.tell(x, 1, "y:0-3");
        check.due("law(1)", x.law(1), true);
        check.due("count(4)", x.count(4), 1);
        check.due("law(2)", x.law(2), false);
        check.due("count(4)", x.count(4), 1);
        check.due("law(0)", x.law(0), true);
        check.due("strokes by the law", x.strokes(0, 2), 14);
        x.law(1);
        check.due("strokes by the other", x.strokes(0, 2), 8);
        check.due("law(NONE)", x.law(-1), true);
        check.due("count(4)", x.count(4), -1);
        check.due("strokes by none", x.strokes(0, 1), 12);
    }

    /** What one stroke gives by a law, told on a bowl that stands at 40 behind 5 strokes. */
    private static void worth(String law, int want) {
        WhiskedDuchy x = Check.duchy("sa7y3c1;kw9;kw6;m", "y:8");
        x.strokes(0, 5);
        x.law(Check.tell(x, 1, law));
        check.due("worth of " + law, x.behind(1, 1) - 40, want);
    }

    private static void worths() {
        worth("y:w", 6);
        worth("y:s/10", 4);
        worth("y:n", 5);
        worth("y:y", 3);
        worth("y:a", 7);
        worth("y:c", 1);
        worth("y:10", 9);
        worth("y:9999", 9);
        worth("y:0-9999", -9);
        worth("y:0", 0);
        worth("y:1-2-3", -4);
        worth("y:1-[2-3]", 2);
        worth("y:1+2*3", 7);
        worth("y:[1+2]*3", 9);
        worth("y:7/2", 3);
        worth("y:[0-7]/2", -3);
        worth("y:7/[0-2]", -3);
        worth("y:7/0", 0);
        worth("y:7/[w-6]+2", 2);
        worth("y:9/2*2", 8);
        worth("y:9999*9999/9999-99", 1);
        worth("y:[0-9999]*9999/9999+99", -1);
        worth("y:9999*100+9999-9999*100-99", 1);
        worth("y:0-9999*100-9999+9999*100+99", -1);
        worth("y:1=2?5", 0);
        worth("y:1=2?5;y:w=6?3;y:4", 3);
        worth("y:w<6?5;y:w>6?3;y:4", 4);
        worth("y:w>5&s=40&n<6?5", 5);
        worth("y:w>5&s=41|n<6?5", 5);
        worth("y:n<6|w>5&s=41?5", 5);
        worth("y:(n<6|w>5)&s=41?5", 0);
        worth("y:!w=6?5;y:2", 2);
        worth("y:!(w=6&s=41)?5;y:2", 5);
        worth("y:!!w=6?5;y:2", 5);
        worth("y:!w=6|w=6?5;y:2", 5);
        worth("y:!w=5&w=5?5;y:2", 2);
    }

    private static void strokes() {
        WhiskedDuchy x = Check.duchy("sy1c1;kw3e12;kw9e40;m");
        check.due("strokes(0, 0)", x.strokes(0, 0), -1);
        check.due("strokes(0, 41)", x.strokes(0, 41), -1);
        check.due("strokes(2, 0)", x.strokes(2, 0), -1);
        check.due("strokes(-1, 1)", x.strokes(-1, 1), -1);
        check.due("status(0)", x.status(0), 2);
        check.due("status(1)", x.status(1), 2);
        check.due("more than his endurance", x.strokes(0, 13), -1);
        check.due("status(3)", x.status(3), 1);
        check.due("strokes(0, 12)", x.strokes(0, 12), 42);
        check.due("tired", x.cook(0, 2), 12);
        check.due("not one more", x.strokes(0, 1), -1);
        check.due("status(3)", x.status(3), 2);
        check.due("strokes today", x.count(7), 12);
        check.due("another one", x.strokes(1, 8), 42 + 8 * 7);
        check.due("99 at most", x.strokes(1, 1), 99);
        check.due("less by the third ten", x.strokes(1, 9), 99);
        check.due("still", x.strokes(1, 10), 99);
        check.due("less than none", x.strokes(1, 1), 97);
        check.due("strokes today", x.count(7), 41);
        x = Check.duchy("sy9;kw1e40;m");
        check.due("0 at least", x.strokes(0, 40), 0);
    }

    private static void fold() {
        WhiskedDuchy x = Check.duchy("kw5;mn20l3;mn0l9;mn21");
        check.due("fold(3)", x.fold(3), -1);
        check.due("fold(-1)", x.fold(-1), -1);
        check.due("status(0)", x.status(0), 2);
        check.due("it does not stand so", x.fold(0), -1);
        check.due("status(3)", x.status(3), 1);
        x.strokes(0, 4);
        check.due("one short", x.fold(2), -1);
        check.due("just so", x.fold(0), 17);
        check.due("he is in it", x.fold(0), -1);
        check.due("status(2)", x.status(2), 1);
        check.due("status(3)", x.status(3), 2);
        check.due("fold(1)", x.fold(1), 8);
        check.due("who is in it", x.most(5), 3);
        x = Check.duchy("kw5;mn0l9;mn0");
        x.strokes(0, 1);
        check.due("0 at least", x.fold(0), 0);
        check.due("that is no fall", x.most(5), 1);
        check.due("nobody has fallen", x.count(10), 0);
        check.due("at nothing for him that needs nothing", x.fold(1), 0);
    }

    private static void sugar() {
        WhiskedDuchy x = Check.duchy("sp5;k;m");
        check.due("sugar", x.sugar(), 1);
        check.due("sugar", x.sugar(), 2);
        check.due("the purse", x.rule(3), 1);
        check.due("too little", x.sugar(), -1);
        check.due("status(3)", x.status(3), 1);
        x = Check.duchy("sp18;k;m");
        for (int i = 1; i <= 9; i++) {
            check.due("sugar", x.sugar(), i);
        }
        check.due("nine, and an empty purse", x.sugar(), -1);
        check.due("status(2)", x.status(2), 1);
        check.due("status(3)", x.status(3), 0);
        x.days(1);
        check.due("none in the morning", x.count(8), 0);
    }

    private static void doors() {
        WhiskedDuchy x = Check.duchy("kw5;mn0l0;mn0l0");
        check.due("a door at 0", x.door(), 0);
        check.due("nobody is in it", x.count(10), 0);
        x.strokes(0, 1);
        x.fold(0);
        x.fold(1);
        check.due("half", x.door(), 2);
        check.due("half", x.door(), 1);
        check.due("both in it", x.most(5), 3);
        check.due("it falls", x.door(), 0);
        check.due("all are out", x.most(5), 0);
        check.due("fallen", x.count(10), 1);
        check.due("no duchy", new WhiskedDuchy().door(), -1);
    }

    private static void hours() {
        WhiskedDuchy x = Check.duchy("sa5;kw5;mw9n0l0;mw2n0l0;mw1n0l0");
        x.strokes(0, 10);
        check.due("an hour", x.hours(1), 48);
        x.fold(0);
        x.fold(1);
        check.due("11 weigh 2", x.hours(1), 44);
        x.fold(2);
        check.due("12 weigh 3", x.hours(2), 34);
        x.sugar();
        x.sugar();
        check.due("less by sugar", x.hours(1), 31);
        for (int i = 0; i < 4; i++) {
            x.sugar();
        }
        check.due("not below none", x.hours(20), 31);
        check.due("hours(21)", x.hours(21), -1);
        check.due("hours(0)", x.hours(0), -1);
        check.due("status(1)", x.status(1), 2);
        x = Check.duchy("sa9;kw5;mw0n0l0");
        x.strokes(0, 2);
        x.fold(0);
        check.due("it falls once", x.hours(20), 0);
        check.due("fallen", x.count(10), 1);
        check.due("each hour is an act", x.count(14), 22);
        check.due("undone", x.undo(), 21);
        for (int i = 0; i < 16; i++) {
            x.undo();
        }
        check.due("not yet fallen", x.count(10), 1);
        check.due("undone", x.undo(), 4);
        check.due("not fallen", x.count(10), 0);
        check.due("he is in it again", x.most(5), 1);
        check.due("it stands", x.count(6), 2);
    }

    private static void purse() {
        WhiskedDuchy x = Check.duchy("sy2p10;kw8;m");
        check.due("practise", x.practise(0), 9);
        check.due("nine", x.practise(0), -1);
        check.due("practise(1)", x.practise(1), -1);
        check.due("yolk", x.yolk(), 1);
        check.due("yolk", x.yolk(), 0);
        check.due("the purse", x.rule(3), 0);
        check.due("none", x.yolk(), -1);
        check.due("status(0)", x.status(0), 1);
        check.due("status(2)", x.status(2), 2);
        check.due("status(3)", x.status(3), 0);
        x = Check.duchy("sy1p2;kw3;m");
        check.due("too little for a lesson", x.practise(0), -1);
        check.due("too little for yolk", x.yolk(), -1);
        check.due("status(3)", x.status(3), 2);
        check.due("give(51)", x.give(51), -1);
        check.due("give(0)", x.give(0), -1);
        check.due("give(1)", x.give(1), 3);
        check.due("just enough", x.yolk(), 0);
        check.due("give(4)", x.give(4), 4);
        check.due("just enough", x.practise(0), 4);
        for (int i = 1; i <= 19; i++) {
            check.due("give(50)", x.give(50), 50 * i);
        }
        check.due("above 999", x.give(50), -1);
        check.due("999", x.give(49), 999);
        check.due("above 999", x.give(1), -1);
        check.due("status(1)", x.status(1), 4);
        x.days(1);
        check.due("999 at most", x.rule(3), 999);
        check.due("wrist stays over the day", x.cook(0, 0), 4);
        check.due("yolk stays over the day", x.rule(1), 0);
    }

    private static void days() {
        WhiskedDuchy x = Check.duchy("kw9;mv9n0l0;mv8n0l0;mv9n0l0;mv9n0l0;mv9n0l0;mv9n0l0;mv9n0l0");
        x.strokes(0, 3);
        x.fold(1);
        x.fold(2);
        x.sugar();
        check.due("days(0)", x.days(0), -1);
        check.due("days(61)", x.days(61), -1);
        check.due("days(1)", x.days(1), 1);
        int[] want = {7, 1, 0, 0, -1, 1, 0, 0, 0, 17, 0, 2, 0, 1, 5};
        for (int what = 0; what < want.length; what++) {
            check.due("morning: count(" + what + ")", x.count(what), want[what]);
        }
        check.due("the purse", x.rule(3), 20);
        check.due("tired", x.cook(0, 2), 0);
        check.due("all out", x.most(5), 0);
        check.due("days(60)", x.days(60), 61);
        check.due("no more glory", x.count(9), 17);
        for (int i = 1; i <= 15; i++) {
            x.days(60);
        }
        check.due("the day", x.count(5), 961);
        check.due("beyond 999", x.days(39), -1);
        check.due("status(4)", x.status(4), 1);
        check.due("days(38)", x.days(38), 999);
        check.due("beyond 999", x.days(1), -1);
        check.due("years beyond", x.years(1, 0), -1);
        check.due("status(4)", x.status(4), 2);
        check.due("status(1)", x.status(1), 2);
        glory();
    }

    private static void glory() {
        WhiskedDuchy x = Check.duchy("kw9;mv9n0l0;mv9n0l0;mv9n0l0;mv9n0l0;mv9n0l0;mv9n0l0;mv9n0l0");
        for (int i = 1; i <= 60; i++) {
            for (int m = 0; m < 7; m++) {
                x.fold(m);
            }
            x.days(1);
        }
        check.due("glory", x.count(9), 3780);
    }

    private static void undo() {
        WhiskedDuchy x = Check.duchy("sy4;kw5;mn0;m");
        check.due("no act yet", x.undo(), -1);
        x.strokes(0, 6);
        x.fold(0);
        x.sugar();
        x.practise(0);
        x.yolk();
        x.give(7);
        x.door();
        x.strokes(0, 40);
        check.due("acts", x.count(14), 7);
        check.due("undo the door", x.undo(), 6);
        check.due("it stands", x.count(6), 5);
        check.due("undo the gift", x.undo(), 5);
        check.due("the purse", x.rule(3), 11);
        check.due("undo the yolk", x.undo(), 4);
        check.due("the purse", x.rule(3), 14);
        check.due("yolk", x.rule(1), 4);
        check.due("undo the lesson", x.undo(), 3);
        check.due("wrist", x.cook(0, 0), 5);
        check.due("undo the sugar", x.undo(), 2);
        check.due("sugar", x.count(8), 0);
        check.due("the purse", x.rule(3), 20);
        x.undo();
        check.due("not folded", x.most(5), 0);
        check.due("undo the strokes", x.undo(), 0);
        check.due("tired", x.cook(0, 2), 0);
        check.due("strokes", x.count(7), 0);
        check.due("none any more", x.undo(), -1);
        check.due("status stays", x.status(3), 1);
    }

    private static void undoOfDays() {
        WhiskedDuchy x = Check.duchy("kw5;m");
        for (int i = 1; i <= 70; i++) {
            x.strokes(0, 1 + i % 15);
            x.days(1);
        }
        x.days(40);
        check.due("40 acts", x.count(14), 40);
        check.due("the log", x.count(13), 60);
        check.due("the log's last", x.log(59, 2), 1 + 51 % 15);
        for (int i = 39; i >= 0; i--) {
            check.due("undo", x.undo(), i);
        }
        check.due("not the 41st", x.undo(), -1);
        check.due("the day", x.count(5), 70);
        check.due("the log", x.count(13), 60);
        for (int i = 0; i < 60; i++) {
            check.due("the log as it was", x.log(i, 2), 1 + (70 - i) % 15);
        }
    }

    private static void log() {
        WhiskedDuchy x = Check.duchy("kw5;mn0l0;mn0l0");
        check.due("no log", x.log(0, 0), -1);
        x.strokes(0, 2);
        x.fold(1);
        x.days(1);
        x.strokes(0, 3);
        x.fold(0);
        x.fold(1);
        x.days(2);
        int[][] want = {{0, 0, 0}, {15, 3, 3}, {10, 2, 2}};
        for (int i = 0; i < 3; i++) {
            for (int what = 0; what < 3; what++) {
                check.due("log(" + i + ", " + what + ")", x.log(i, what), want[i][what]);
            }
        }
        check.due("log(3, 0)", x.log(3, 0), -1);
        check.due("log(-1, 0)", x.log(-1, 0), -1);
        check.due("log(0, 3)", x.log(0, 3), -1);
        check.due("log(0, -1)", x.log(0, -1), -1);
        x.days(57);
        check.due("60", x.count(13), 60);
        check.due("the first one", x.log(59, 0), 10);
        x.days(1);
        check.due("60", x.count(13), 60);
        check.due("the second one", x.log(59, 0), 15);
        check.due("log(60, 0)", x.log(60, 0), -1);
    }

    private static void statusOfSeveral() {
        WhiskedDuchy x = new WhiskedDuchy();
        x.strokes(5, 99);
        x.hours(0);
        x.give(1000);
        x.days(0);
        x.years(0, 5);
        x.undo();
        x.image();
        check.due("status(0)", x.status(0), 4);
        check.due("status(1)", x.status(1), 0);
        check.due("status(5)", x.status(5), -1);
        check.due("status(-1)", x.status(-1), -1);
        Check.tell(x, 0, "ke1;mn40");
        x.strokes(0, 50);
        check.due("out of bounds ahead of too tired", x.status(1), 1);
        x.days(100);
        check.due("out of bounds", x.status(1), 2);
        check.due("status(3)", x.status(3), 0);
        check.due("status(4)", x.status(4), 0);
    }
}
