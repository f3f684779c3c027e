/** Promises 41 to 43: image, back, count. */
public final class ImageTest {
    private static final Check check = new Check();

    public static void main(String[] args) {
        refused();
        backAgain();
        logOfAnImage();
        counts();
        check.finish();
    }

    private static void refused() {
        WhiskedDuchy x = new WhiskedDuchy();
        check.due("image of no duchy", x.image(), -1);
        check.due("back to none", x.back(), -1);
        Check.tell(x, 0, "k;m");
        check.due("back to none", x.back(), -1);
        x.days(3);
        check.due("image", x.image(), 3);
        Check.tell(x, 0, "k;m");
        check.due("an image of another one", x.back(), -1);
        check.due("no status", x.status(0), 0);
    }

    private static void backAgain() {
        WhiskedDuchy x = Check.duchy("sy3p90;kw5;kw4;mn0;mn0");
        x.strokes(0, 2);
        x.strokes(1, 3);
        x.fold(1);
        x.sugar();
        x.practise(1);
        x.yolk();
        check.due("image", x.image(), 0);
        check.due("acts stay", x.count(14), 6);
        x.strokes(0, 5);
        x.practise(0);
        x.yolk();
        x.give(50);
        x.draught(5);
        x.seen(0, 1, 1, true);
        for (int i = 0; i < 8; i++) {
            x.door();
        }
        check.due("fallen", x.count(10), 1);
        x.fold(0);
        x.days(2);
        check.due("back", x.back(), 0);
        check.due("wrist", x.cook(0, 0), 5);
        check.due("wrist", x.cook(1, 0), 5);
        check.due("tired", x.cook(0, 2), 2);
        check.due("tired", x.cook(1, 2), 3);
        check.due("yolk", x.rule(1), 2);
        check.due("the purse", x.rule(3), 81);
        check.due("in it", x.most(5), 2);
        int[] want = {2, 2, 0, 0, -1, 0, 6, 5, 1, 0, 0, 5, 1, 0, 0};
        for (int what = 0; what < want.length; what++) {
            check.due("back: count(" + what + ")", x.count(what), want[what]);
        }
        check.due("no act can be undone", x.undo(), -1);
        x.days(1);
        check.due("one can", x.undo(), 0);
        x.days(4);
        check.due("back once more", x.back(), 0);
        x.days(4);
        check.due("another image", x.image(), 4);
        x.days(4);
        check.due("back to that", x.back(), 4);
    }

    private static void logOfAnImage() {
        WhiskedDuchy x = Check.duchy("kw5;m");
        for (int i = 0; i < 80; i++) {
            x.strokes(0, 1 + i % 15);
            x.days(1);
        }
        x.image();
        x.days(60);
        x.days(60);
        check.due("no strokes", x.log(59, 2), 0);
        check.due("back", x.back(), 80);
        check.due("the log", x.count(13), 60);
        for (int i = 0; i < 60; i++) {
            check.due("log(" + i + ")", x.log(i, 2), 1 + (79 - i) % 15);
        }
        x.days(1);
        x.undo();
        check.due("the log's last", x.log(59, 2), 1 + 20 % 15);
    }

    private static void counts() {
        WhiskedDuchy x = Check.duchy("kw9;kw5;mv5n0;m;m");
        Check.tell(x, 1, "y:w");
        Check.tell(x, 1, "y:w-s/90");
        x.law(1);
        Check.feed(x, "abc");
        x.fold(0);
        x.days(1);
        x.draught(4);
        x.strokes(0, 3);
        x.sugar();
        x.seen(1, 1, 1, false);
        x.fold(0);
        int[] want = {3, 2, 2, 3, 1, 1, 26, 3, 1, 5, 0, 4, 1, 1, 5};
        for (int what = 0; what < want.length; what++) {
            check.due("count(" + what + ")", x.count(what), want[what]);
        }
        check.due("count(15)", x.count(15), -1000000);
        check.due("count(-1)", x.count(-1), -1000000);
    }
}
