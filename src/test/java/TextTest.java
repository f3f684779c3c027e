/** Promises 1 to 5: a new object, feed, end, fault, text. */
public final class TextTest {
    private static final Check check = new Check();

    public static void main(String[] args) {
        newObject();
        feed();
        end();
        faultOfDuchies();
        faultOfNumbers();
        faultOfLaws();
        faultOfDepth();
        textOfDuchies();
        textOfLaws();
        check.finish();
    }

    private static void newObject() {
        WhiskedDuchy x = new WhiskedDuchy();
        int[] want = {0, 0, 0, 0, -1, 0, 0, 0, 0, 0, 0, 2, 0, 0, 0};
        for (int what = 0; what < want.length; what++) {
            check.due("new: count(" + what + ")", x.count(what), want[what]);
        }
        check.due("new: rule(0)", x.rule(0), -1);
        for (int what = 0; what < 5; what++) {
            check.due("new: status", x.status(what), 0);
        }
    }

    private static void feed() {
        WhiskedDuchy x = new WhiskedDuchy();
        check.due("feed of nothing", x.feed(0, 0, 0, 0, 0), 0);
        check.due("zeros are left out", x.feed(0x6B003B00, 0, 0x0000006D, 0, 0), 3);
        check.due("highest first", x.fault(0), -1);
        check.due("a byte of 255", x.feed(-1, 0, 0, 0, 0), 7);
        check.due("a byte of 255 is no sign", x.fault(0), 3);
        x.end(0);
        for (int i = 1; i <= 12; i++) {
            check.due("feed up to 240", x.feed(-1, -1, -1, -1, -1), 20 * i);
        }
        check.due("nothing more still is fine", x.feed(0, 0, 0, 0, 0), 240);
        check.due("feed above 240", x.feed(0, 0, 0, 0, 1), -1);
        check.due("it changed nothing", x.count(3), 240);
        x.end(239);
        check.due("two above 239", x.feed(0x20200000, 0, 0, 0, 0), -1);
        check.due("one above 239", x.feed(0, 0, 0x20, 0, 0), 240);
    }

    private static void end() {
        WhiskedDuchy x = new WhiskedDuchy();
        check.due("end(0) of nothing", x.end(0), true);
        check.due("end(1) of nothing", x.end(1), false);
        check.due("end(-1)", x.end(-1), false);
        Check.feed(x, "k;mw3;x");
        check.due("end(8)", x.end(8), false);
        check.due("end(7)", x.end(7), true);
        check.due("fault", x.fault(0), 6);
        check.due("end(5)", x.end(5), true);
        check.due("size", x.count(3), 5);
        check.due("fault", x.fault(0), -1);
        check.due("end(Integer.MAX_VALUE)", x.end(Integer.MAX_VALUE), false);
    }

    private static void fault(int sort, String text, int want) {
        check.due("fault(" + sort + ") of '" + text + "'", Check.faultOf(sort, text), want);
    }

    private static void faultOfDuchies() {
        check.due("fault(2)", new WhiskedDuchy().fault(2), -2);
        check.due("fault(-1)", new WhiskedDuchy().fault(-1), -2);
        fault(0, "", 0);
        fault(0, "   ", 3);
        fault(0, "k;m", -1);
        fault(0, "m;s;k", -1);
        fault(0, "k;", 2);
        fault(0, "k;;m", 2);
        fault(0, "k;m;", 4);
        fault(0, "k;m; ", 5);
        fault(0, ";k;m", 0);
        fault(0, "k m", 2);
        fault(0, "s;k", 3);
        fault(0, "s;m ", 4);
        fault(0, "s;s", 2);
        fault(0, "k;k;k;k;m", -1);
        fault(0, "k;k;k;k;m;k", 10);
        fault(0, "m;m;m;m;m;m;m;k", -1);
        fault(0, "m;m;m;m;m;m;m;k;m", 16);
        fault(0, "K;m", 0);
        fault(0, "kw1e1w1;m", 5);
        fault(0, "kw1;mw1;kw2", -1);
        fault(0, "ka1;m", 1);
        fault(0, "se1;m", 1);
        fault(0, "me1;k", 1);
        fault(0, "kw", 2);
        fault(0, "kw;m", 2);
        fault(0, "kwe1;m", 2);
        fault(0, "k w 1 ; m", -1);
        fault(0, " s a 9 y 9 c 1 p 99 ; k w 9 e 40 ; m w 9 v 9 n 40 l 9 ", -1);
    }

    private static void faultOfNumbers() {
        fault(0, "k e 1 1;m", 6);
        fault(0, "ke11;m", -1);
        fault(0, "kw0;m", 2);
        fault(0, "kw00;m", 3);
        fault(0, "kw01;m", -1);
        fault(0, "kw010;m", 4);
        fault(0, "kw100;m", 4);
        fault(0, "kw10;m", 3);
        fault(0, "sa9;k;m", -1);
        fault(0, "sa10;k;m", 3);
        fault(0, "sa100;k;m", 4);
        fault(0, "sy09;k;m", -1);
        fault(0, "sy10;k;m", 3);
        fault(0, "sc1;k;m", -1);
        fault(0, "sc2;k;m", 2);
        fault(0, "sc20;k;m", 3);
        fault(0, "sp0;k;m", -1);
        fault(0, "sp99;k;m", -1);
        fault(0, "sp099;k;m", 4);
        fault(0, "ke0;m", 2);
        fault(0, "ke40;m", -1);
        fault(0, "ke41;m", 3);
        fault(0, "k;mw0v0n0l0", -1);
        fault(0, "k;mv10", 5);
        fault(0, "k;mw10", 5);
        fault(0, "k;ml10", 5);
        fault(0, "k;mn40", -1);
        fault(0, "k;mn41", 5);
        fault(0, "k;mn-1", 4);
    }

    private static void faultOfLaws() {
        fault(1, "", 0);
        fault(1, "y", 1);
        fault(1, "y:", 2);
        fault(1, "x:1", 0);
        fault(1, "y;1", 1);
        fault(1, "y:w", -1);
        fault(1, " y : w ", -1);
        fault(1, "y:w;", 4);
        fault(1, "y:w;y:s;y:n;y:y;y:a;y:c", -1);
        fault(1, "y:w y:s", 4);
        fault(1, "y:9999", -1);
        fault(1, "y:00001", 6);
        fault(1, "y:12345", 6);
        fault(1, "y:1 2", 4);
        fault(1, "y:-1", 2);
        fault(1, "y:1+", 4);
        fault(1, "y:1+*", 4);
        fault(1, "y:e", 2);
        fault(1, "y:p", 2);
        fault(1, "y:1?2", 3);
        fault(1, "y:1=1", 5);
        fault(1, "y:1=1;", 5);
        fault(1, "y:1=1?", 6);
        fault(1, "y:1=1?2", -1);
        fault(1, "y:1=1=1?2", 5);
        fault(1, "y:1=1?2?3", 7);
        fault(1, "y:1=1?2=2", 7);
        fault(1, "y:1&1", 3);
        fault(1, "y:1|1", 3);
        fault(1, "y:1=1&2<3|4>5?6", -1);
        fault(1, "y:1=1&2?6", 7);
        fault(1, "y:(1=1)?2", -1);
        fault(1, "y:(1)?2", 4);
        fault(1, "y:(1+1)?2", 6);
        fault(1, "y:(1=1)", 7);
        fault(1, "y:(1=1)+1", 7);
        fault(1, "y:(1=1", 6);
        fault(1, "y:1=(1)?1", 4);
        fault(1, "y:!1=1?2", -1);
        fault(1, "y:!1?2", 4);
        fault(1, "y:!(1=1|2=2)&!!3=3?2", -1);
        fault(1, "y:[1]", -1);
        fault(1, "y:[1", 4);
        fault(1, "y:[1=1]?2", 4);
        fault(1, "y:[]", 3);
        fault(1, "y:1)", 3);
        fault(1, "y:1]", 3);
        fault(1, "y:[[1+2]*[w/s]]-3<4?y", -1);
        fault(1, "y:w=s?[w-s]*2;y:(s>9&n<5)|!a=0?c;y:3", -1);
    }

    private static void faultOfDepth() {
        fault(1, "y:[[[[[[1]]]]]]", -1);
        fault(1, "y:[[[[[[[1]]]]]]]", 8);
        fault(1, "y:!!!!!!1=1?1", -1);
        fault(1, "y:!!!!!!!1=1?1", 8);
        fault(1, "y:((((((1=1))))))?1", -1);
        fault(1, "y:(((((((1=1)))))))?1", 8);
        fault(1, "y:!(!([1]=[[1]]))?1", -1);
        fault(1, "y:!(!([[[1]]]=1))?1", 8);
        fault(1, "y:!(!([[1]]=[[1]]&!(1=1)))&[[[[[[1]]]]]]=1?[[[[[[1]]]]]]", -1);
        fault(1, "y:!(!([[1]]=[[[1]]]))?1", 14);
        fault(1, "y:!!!!!![1]=1?1", 8);
        fault(1, "y:1=[[[[[[1]]]]]]?1", -1);
        fault(1, "y:1=[[[[[[[1]]]]]]]?1", 10);
        fault(1, "y:1=1&[[[[[[1]]]]]]=1?1", -1);
        fault(1, "y:1=1&[[[[[[[1]]]]]]]=1?1", 12);
        fault(1, "y:1=1|!!!!!!1=1?1", -1);
        fault(1, "y:1=1|!!!!!!!1=1?1", 12);
        fault(1, "y:1=1?[[[[[[1]]]]]]", -1);
        fault(1, "y:1=1?[[[[[[[1]]]]]]]", 12);
    }

    private static void textOfDuchies() {
        WhiskedDuchy x = new WhiskedDuchy();
        check.due("text(0) of nothing", x.text(0), -1);
        check.due("text(2)", x.text(2), -1);
        check.due("text(-1)", x.text(-1), -1);
        Check.feed(x, "k;m;m;x");
        check.due("text with a fault", x.text(0), -1);
        check.due("the tape stays", x.count(3), 7);
        check.due("no duchy", x.rule(0), -1);
        x.end(5);
        check.due("text(0)", x.text(0), 2);
        check.due("the tape is empty", x.count(3), 0);
        anotherDuchy();
    }

    private static void anotherDuchy() {
        WhiskedDuchy x = Check.duchy("sp99;kw9;m;m");
        check.due("a law", Check.tell(x, 1, "y:5"), 0);
        x.law(0);
        x.draught(7);
        x.strokes(9, 1);
        x.strokes(0, 3);
        x.fold(1);
        x.seen(0, 1, 1, true);
        x.image();
        x.days(1);
        x.sugar();
        check.due("another one", Check.tell(x, 0, "sy3p5;kw2;kw3;m;m;m"), 3);
        int[] want = {3, 2, 1, 0, 0, 0, 0, 0, 0, 0, 0, 7, 0, 0, 0};
        for (int what = 0; what < want.length; what++) {
            check.due("another one: count(" + what + ")", x.count(what), want[what]);
        }
        check.due("status stays", x.status(0), 1);
        check.due("no image of this one", x.back(), -1);
        check.due("no act can be undone", x.undo(), -1);
        check.due("no log", x.log(0, 0), -1);
        check.due("its purse", x.rule(3), 5);
        check.due("its yolk", x.rule(1), 3);
        check.due("its wrist", x.cook(1, 0), 3);
        check.due("nobody tired", x.cook(0, 2), 0);
        check.due("the law holds", x.behind(0, 2), 10);
        Check.feed(x, "k");
        check.due("a fault", x.text(0), -1);
        check.due("it changed nothing", x.count(0), 3);
    }

    private static void textOfLaws() {
        WhiskedDuchy x = new WhiskedDuchy();
        check.due("text(1) of nothing", x.text(1), -1);
        for (int i = 0; i < 4; i++) {
            Check.feed(x, "y:w+" + i);
            check.due("text(1)", x.text(1), i);
            check.due("count(2)", x.count(2), i + 1);
            check.due("the tape is empty", x.count(3), 0);
        }
        Check.feed(x, "y:w");
        check.due("a fifth law", x.text(1), -1);
        check.due("the tape stays", x.count(3), 3);
        check.due("four laws", x.count(2), 4);
        check.due("none holds by itself", x.count(4), -1);
    }
}
