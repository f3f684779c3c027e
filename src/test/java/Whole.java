import java.util.ArrayList;
import java.util.List;
import java.util.NoSuchElementException;

/**
 * All that can be asked of an object, so that two of them can be compared. The object is used up by it: it
 * takes some 300 of the 512 calls that an object has, and undoes all acts at its end.
 */
final class Whole {
    private final List<String> answers = new ArrayList<>();
    private final WhiskedDuchy x;

    private Whole(WhiskedDuchy x) {
        this.x = x;
    }

    /** The answers, as they would be had one act more been refused for this reason (-1: none). */
    static List<String> of(WhiskedDuchy x, int refusedOnceMore) {
        Whole whole = new Whole(x);
        for (int what = 0; what < 5; what++) {
            whole.add("status(" + what + ")", x.status(what) + (what == refusedOnceMore ? 1 : 0));
        }
        whole.addTold();
        whole.addLog();
        whole.addApart();
        whole.addLaws();
        whole.addPast();
        return whole.answers;
    }

    private void add(String call, long answer) {
        answers.add(call + " = " + answer);
    }

    private void addTold() {
        for (int what = 0; what < 15; what++) {
            add("count(" + what + ")", x.count(what));
        }
        for (int what = 0; what < 4; what++) {
            add("rule(" + what + ")", x.rule(what));
        }
        for (int cook = 0; cook < 4; cook++) {
            for (int what = 0; what < 3; what++) {
                add("cook(" + cook + ", " + what + ")", x.cook(cook, what));
            }
        }
        for (int minister = 0; minister < 7; minister++) {
            for (int what = 0; what < 5; what++) {
                add("minister(" + minister + ", " + what + ")", ministerOf(x, minister, what));
            }
        }
        add("fault(0)", x.fault(0));
        add("fault(1)", x.fault(1));
    }

    /** What minister answers, -77 where it throws NoSuchElementException. */
    static int ministerOf(WhiskedDuchy x, int minister, int what) {
        try {
            return x.minister(minister, what);
        } catch (NoSuchElementException e) {
            return -77;
        }
    }

    private void addLog() {
        for (int i : new int[] {0, 1, 2, 58, 59, 60}) {
            for (int what = 0; what < 3; what++) {
                add("log(" + i + ", " + what + ")", x.log(i, what));
            }
        }
    }

    private void addApart() {
        for (int what = 0; what < 10; what++) {
            add("most(" + what + ")", x.most(what));
        }
        for (int i = -1; i < 10; i++) {
            add("fits(" + i + ")", x.fits(i));
        }
        for (int what = 0; what < 3; what++) {
            add("row(" + what + ")", x.row(what));
        }
    }

    private void addLaws() {
        for (int law = -1; law < 4; law++) {
            add("law(" + law + ")", x.law(law) ? 1 : 0);
            add("behind(0, 3) by law " + law, x.behind(0, 3));
        }
    }

    private void addPast() {
        for (int i = 0, left = 0; i < 41 && left >= 0; i++) {
            left = x.undo();
            add("undo", left);
            add("the day then", x.count(5));
            add("how it stands then", x.count(6));
            add("the purse then", x.rule(3));
        }
        add("back", x.back());
        add("how it stands then", x.count(6));
        add("the purse then", x.rule(3));
        add("the log then", x.count(13));
        add("the latest of it", x.log(0, 2));
    }
}
