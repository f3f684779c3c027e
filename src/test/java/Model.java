import java.util.ArrayList;
import java.util.HashMap;
import java.util.List;
import java.util.Map;
import java.util.NoSuchElementException;

/** The document once more, in the plainest way and with no thought of speed or room; ModelTest compares the class with it. */
final class Model {
    /** All that acts change; a copy of it is what undo and back go to. */
    private static final class State {
        int stands, strokes, inside, sugar, yolk, purse, glory, fallen, day;
        List<Integer> tired = new ArrayList<>();
        List<Integer> wrists = new ArrayList<>();
        List<int[]> log = new ArrayList<>();

        State copy() {
            State s = new State();
            s.stands = stands;
            s.strokes = strokes;
            s.inside = inside;
            s.sugar = sugar;
            s.yolk = yolk;
            s.purse = purse;
            s.glory = glory;
            s.fallen = fallen;
            s.day = day;
            s.tired = new ArrayList<>(tired);
            s.wrists = new ArrayList<>(wrists);
            s.log = new ArrayList<>(log);
            return s;
        }
    }

    private String tape = "";
    private boolean told;
    private Map<Character, Integer> rules = new HashMap<>();
    private List<Map<Character, Integer>> cooks = new ArrayList<>();
    private List<Map<Character, Integer>> ministers = new ArrayList<>();
    private final List<String> laws = new ArrayList<>();
    private int held = -1;
    private int draughty = 2;
    private final int[] refused = new int[5];
    private State s = new State();
    private State image;
    private List<State> past = new ArrayList<>();
    private List<int[]> seen = new ArrayList<>();
    private long x;

    int feed(int a, int b, int c, int d, int e) {
        StringBuilder more = new StringBuilder(tape);
        for (int number : new int[] {a, b, c, d, e}) {
            for (int part : new int[] {number >>> 24, number >>> 16 & 255, number >>> 8 & 255, number & 255}) {
                if (part != 0) {
                    more.append((char) part);
                }
            }
        }
        if (more.length() > 240) {
            return -1;
        }
        tape = more.toString();
        return tape.length();
    }

    boolean end(int n) {
        if (n < 0 || n > tape.length()) {
            return false;
        }
        tape = tape.substring(0, n);
        return true;
    }

    int fault(int sort) {
        return sort == 0 || sort == 1 ? Grammar.fault(sort, tape) : -2;
    }

    int text(int sort) {
        if (fault(sort) != -1 || sort == 1 && laws.size() == 4) {
            return -1;
        }
        String text = tape.replace(" ", "");
        tape = "";
        if (sort == 1) {
            laws.add(text);
            return laws.size() - 1;
        }
        tellDuchy(text);
        return ministers.size();
    }

    private void tellDuchy(String text) {
        told = true;
        rules = new HashMap<>(Map.of('a', 2, 'y', 0, 'c', 0, 'p', 20));
        cooks = new ArrayList<>();
        ministers = new ArrayList<>();
        for (String clause : text.split(";")) {
            if (clause.charAt(0) == 's') {
                rules.putAll(items(clause));
            } else if (clause.charAt(0) == 'k') {
                cooks.add(new HashMap<>(Map.of('w', 4, 'e', 15)));
                cooks.get(cooks.size() - 1).putAll(items(clause));
            } else {
                ministers.add(new HashMap<>(Map.of('w', 2, 'v', 3, 'n', 10, 'l', 1)));
                ministers.get(ministers.size() - 1).putAll(items(clause));
            }
        }
        s = new State();
        s.yolk = rules.get('y');
        s.purse = rules.get('p');
        for (Map<Character, Integer> cook : cooks) {
            s.wrists.add(cook.get('w'));
            s.tired.add(0);
        }
        image = null;
        past = new ArrayList<>();
        seen = new ArrayList<>();
    }

    private static Map<Character, Integer> items(String clause) {
        Map<Character, Integer> items = new HashMap<>();
        String[] parts = clause.substring(1).split("(?=[a-z])");
        for (String part : parts) {
            if (!part.isEmpty()) {
                items.put(part.charAt(0), Integer.parseInt(part.substring(1)));
            }
        }
        return items;
    }

    private boolean isCook(int cook) {
        return cook >= 0 && cook < cooks.size();
    }

    private boolean isMinister(int minister) {
        return minister >= 0 && minister < ministers.size();
    }

    private boolean isIn(int minister) {
        return (s.inside >> minister) % 2 == 1;
    }

    private int sumIn(char what) {
        int sum = 0;
        for (int m = 0; m < ministers.size(); m++) {
            if (isIn(m)) {
                sum += ministers.get(m).get(what);
            }
        }
        return sum;
    }

    int rule(int what) {
        if (!told || what < 0 || what > 3) {
            return -1;
        }
        return what == 0 ? rules.get('a') : what == 1 ? s.yolk : what == 2 ? rules.get('c') : s.purse;
    }

    int cook(int cook, int what) {
        if (!isCook(cook) || what < 0 || what > 2) {
            return -1;
        }
        return what == 0 ? s.wrists.get(cook) : what == 1 ? cooks.get(cook).get('e') : s.tired.get(cook);
    }

    int minister(int minister, int what) {
        if (!isMinister(minister) || what < 0 || what > 4) {
            throw new NoSuchElementException();
        }
        return what == 4 ? (isIn(minister) ? 1 : 0) : ministers.get(minister).get("wvnl".charAt(what));
    }

    boolean law(int law) {
        if (law < -1 || law >= laws.size()) {
            return false;
        }
        held = law;
        return true;
    }

    // ---- laws, read sign by sign each time ----

    private String law;
    private int at;
    private Map<Character, Integer> letters;

    private int worth(String text) {
        for (String clause : text.split(";")) {
            law = clause.substring(2) + "$";
            at = 0;
            if (law.indexOf('?') < 0) {
                return (int) sum();
            }
            if (condition()) {
                at++;
                return (int) sum();
            }
        }
        return 0;
    }

    private boolean took(char sign) {
        if (law.charAt(at) == sign) {
            at++;
            return true;
        }
        return false;
    }

    private boolean condition() {
        boolean is = truth();
        while (took('|')) {
            boolean other = truth();
            is = is || other;
        }
        return is;
    }

    private boolean truth() {
        boolean is = unit();
        while (took('&')) {
            boolean other = unit();
            is = is && other;
        }
        return is;
    }

    private boolean unit() {
        if (took('!')) {
            return !unit();
        }
        if (took('(')) {
            boolean is = condition();
            at++;
            return is;
        }
        long left = sum();
        char sign = law.charAt(at++);
        long right = sum();
        return sign == '=' ? left == right : sign == '<' ? left < right : left > right;
    }

    private static long hold(long number) {
        return number > 1000000 ? 1000000 : number < -1000000 ? -1000000 : number;
    }

    private long sum() {
        long sum = term();
        while (true) {
            if (took('+')) {
                sum = hold(sum + term());
            } else if (took('-')) {
                sum = hold(sum - term());
            } else {
                return sum;
            }
        }
    }

    private long term() {
        long term = atom();
        while (true) {
            if (took('*')) {
                term = hold(term * atom());
            } else if (took('/')) {
                long by = atom();
                term = by == 0 ? 0 : term / by;
            } else {
                return term;
            }
        }
    }

    private long atom() {
        if (took('[')) {
            long sum = sum();
            at++;
            return sum;
        }
        if (Character.isLetter(law.charAt(at))) {
            return letters.get(law.charAt(at++));
        }
        long number = 0;
        while (Character.isDigit(law.charAt(at))) {
            number = number * 10 + law.charAt(at++) - '0';
        }
        return number;
    }

    // ---- strokes and the rest ----

    private int stroke(int wrist, int stands, int strokes, int yolk) {
        int more;
        if (held == -1) {
            more = wrist + 2 * rules.get('c') - yolk - strokes / 10 * 3;
        } else {
            letters = Map.of('w', wrist, 's', stands, 'n', strokes, 'y', yolk, 'a', rules.get('a'), 'c', rules.get('c'));
            more = worth(laws.get(held));
        }
        more = more > 9 ? 9 : more < -9 ? -9 : more;
        return Math.max(0, Math.min(99, stands + more));
    }

    private void act() {
        past.add(s.copy());
        if (past.size() > 40) {
            past.remove(0);
        }
    }

    private int refuse(int why) {
        refused[why]++;
        return -1;
    }

    private int left(int cook) {
        return cooks.get(cook).get('e') - s.tired.get(cook);
    }

    private void whisk(int cook, int n) {
        for (int i = 0; i < n; i++) {
            s.stands = stroke(s.wrists.get(cook), s.stands, s.strokes, s.yolk);
            s.strokes++;
            s.tired.set(cook, s.tired.get(cook) + 1);
        }
    }

    int strokes(int cook, int n) {
        if (!isCook(cook)) {
            return refuse(0);
        }
        if (n < 1 || n > 40) {
            return refuse(1);
        }
        if (left(cook) < n) {
            return refuse(3);
        }
        act();
        whisk(cook, n);
        return s.stands;
    }

    private boolean can(int minister) {
        return !isIn(minister) && s.stands >= ministers.get(minister).get('n');
    }

    private void put(int minister) {
        s.stands = Math.max(0, s.stands - ministers.get(minister).get('l'));
        s.inside += 1 << minister;
    }

    int fold(int minister) {
        if (!isMinister(minister)) {
            return refuse(0);
        }
        if (isIn(minister)) {
            return refuse(2);
        }
        if (!can(minister)) {
            return refuse(3);
        }
        act();
        put(minister);
        return s.stands;
    }

    int sugar() {
        if (!told || s.sugar == 9 || s.purse < 2) {
            return refuse(!told ? 0 : s.sugar == 9 ? 2 : 3);
        }
        act();
        s.purse -= 2;
        return ++s.sugar;
    }

    private void fall() {
        if (s.stands == 0 && s.inside > 0) {
            s.inside = 0;
            s.fallen++;
        }
    }

    private void openDoor() {
        s.stands /= 2;
        fall();
    }

    private void hour() {
        int by = 1 + rules.get('a') / 3 + sumIn('w') / 4 - s.sugar;
        s.stands = Math.max(0, s.stands - Math.max(0, by));
        fall();
    }

    int door() {
        if (!told) {
            return refuse(0);
        }
        act();
        openDoor();
        return s.stands;
    }

    int hours(int n) {
        if (!told || n < 1 || n > 20) {
            return refuse(!told ? 0 : 1);
        }
        for (int i = 0; i < n; i++) {
            act();
            hour();
        }
        return s.stands;
    }

    int practise(int cook) {
        if (!isCook(cook) || s.wrists.get(cook) == 9 || s.purse < 4) {
            return refuse(!isCook(cook) ? 0 : s.wrists.get(cook) == 9 ? 2 : 3);
        }
        act();
        s.purse -= 4;
        s.wrists.set(cook, s.wrists.get(cook) + 1);
        return s.wrists.get(cook);
    }

    int yolk() {
        if (!told || s.yolk == 0 || s.purse < 3) {
            return refuse(!told ? 0 : s.yolk == 0 ? 2 : 3);
        }
        act();
        s.purse -= 3;
        return --s.yolk;
    }

    int give(int n) {
        if (!told || n < 1 || n > 50 || s.purse + n > 999) {
            return refuse(!told ? 0 : 1);
        }
        act();
        s.purse += n;
        return s.purse;
    }

    private void day() {
        s.glory = Math.min(9999, s.glory + sumIn('v'));
        s.purse = Math.min(999, s.purse + 2);
        s.log.add(0, new int[] {s.stands, s.inside, s.strokes});
        if (s.log.size() > 60) {
            s.log.remove(60);
        }
        s.day++;
        s.stands = 0;
        s.strokes = 0;
        s.inside = 0;
        s.sugar = 0;
        for (int c = 0; c < cooks.size(); c++) {
            s.tired.set(c, 0);
        }
    }

    int days(int n) {
        if (!told || n < 1 || n > 60 || s.day + n > 999) {
            return refuse(!told ? 0 : n < 1 || n > 60 ? 1 : 4);
        }
        for (int i = 0; i < n; i++) {
            act();
            day();
        }
        return s.day;
    }

    boolean draught(int v) {
        boolean is = v >= 0 && v <= 9 && v != draughty;
        draughty = is ? v : draughty;
        return is;
    }

    private int draw(int j) {
        x = x * 6364136223846793005L + 1442695040888963407L;
        return (int) ((x >>> 33) % j);
    }

    int years(int n, long seed) {
        if (!told || n < 1 || n > 60 || s.day + n > 999) {
            return -1;
        }
        x = seed;
        for (int i = 0; i < n; i++) {
            act();
            int cook = draw(cooks.size());
            whisk(cook, Math.min(draw(10) + 5, left(cook)));
            for (int m = 0; m < ministers.size(); m++) {
                int minister = draw(ministers.size());
                if (can(minister)) {
                    put(minister);
                }
            }
            if (draw(10) < draughty) {
                openDoor();
            }
            day();
        }
        return s.day;
    }

    int status(int what) {
        return what < 0 || what > 4 ? -1 : refused[what];
    }

    int undo() {
        if (past.isEmpty()) {
            return -1;
        }
        s = past.remove(past.size() - 1);
        return past.size();
    }

    int log(int i, int what) {
        return i < 0 || i >= s.log.size() || what < 0 || what > 2 ? -1 : s.log.get(i)[what];
    }

    // ---- apart: it is done, looked at, and undone ----

    int behind(int cook, int n) {
        if (!isCook(cook) || n < 0 || n > 40) {
            return -1;
        }
        State was = s.copy();
        whisk(cook, Math.min(n, left(cook)));
        int stands = s.stands;
        s = was;
        return stands;
    }

    int soonest(int cook, int v) {
        if (!isCook(cook) || v < 0 || v > 99) {
            return -1;
        }
        for (int n = 0; n <= left(cook); n++) {
            if (behind(cook, n) >= v) {
                return n;
            }
        }
        return -1;
    }

    int stop(int cook, int what) {
        if (!isCook(cook) || what < 0 || what > 1) {
            return -1;
        }
        for (int v = 99; ; v--) {
            if (soonest(cook, v) >= 0) {
                return what == 0 ? soonest(cook, v) : v;
            }
        }
    }

    int best(int v) {
        int best = -1;
        for (int c = cooks.size() - 1; c >= 0; c--) {
            int n = soonest(c, v);
            if (n >= 0 && (best == -1 || n <= soonest(best, v))) {
                best = c;
            }
        }
        return best;
    }

    int byTurns(int one, int other, int v) {
        if (!isCook(one) || !isCook(other) || one == other || v < 0 || v > 99) {
            return -1;
        }
        State was = s.copy();
        int strokes = 0;
        int turn = 0;
        while (s.stands < v && (left(one) > 0 || left(other) > 0)) {
            int cook = turn++ % 2 == 0 ? one : other;
            if (left(cook) > 0) {
                whisk(cook, 1);
                strokes++;
            }
        }
        int stands = s.stands;
        s = was;
        return stands >= v ? strokes : -1;
    }

    private int[] bestRow;

    int row(int what) {
        if (!told || what < 0 || what > 2) {
            return -1;
        }
        bestRow = null;
        State was = s.copy();
        tryRows(0, 0, 0);
        s = was;
        return what == 0 && bestRow[3] == 0 ? -1 : bestRow[what];
    }

    private void tryRows(int row, int value, int length) {
        if (bestRow == null || isBetter(row, value, length)) {
            bestRow = new int[] {row, value, s.stands, length};
        }
        for (int m = ministers.size() - 1; m >= 0; m--) {
            if (can(m)) {
                State was = s.copy();
                put(m);
                tryRows(row * 10 + m, value + ministers.get(m).get('v'), length + 1);
                s = was;
            }
        }
    }

    private boolean isBetter(int row, int value, int length) {
        if (value != bestRow[1]) {
            return value > bestRow[1];
        }
        if (s.stands != bestRow[2]) {
            return s.stands > bestRow[2];
        }
        return length != bestRow[3] ? length < bestRow[3] : row < bestRow[0];
    }

    int lasts() {
        State was = s.copy();
        int hours = 0;
        while (told && s.stands > 0 && hours < 61) {
            hour();
            hours++;
        }
        s = was;
        return !told || hours > 60 ? -1 : hours;
    }

    int holds(int n) {
        if (!told || n < 0 || n > 20) {
            return -1;
        }
        for (int stands = 0; stands <= 99; stands++) {
            State was = s.copy();
            s.stands = stands;
            for (int i = 0; i < n; i++) {
                hour();
            }
            int then = s.stands;
            s = was;
            if (then >= 1) {
                return stands;
            }
        }
        return -1;
    }

    int seen(int cook, int n, int v, boolean is) {
        if (!isCook(cook) || n < 1 || n > 40 || v < 0 || v > 99 || seen.size() == 10) {
            return -1;
        }
        seen.add(new int[] {cook, n, v, is ? 1 : 0});
        return seen.size();
    }

    private int fromMorning(int cook, int n, int yolk) {
        int stands = 0;
        for (int i = 0; i < n; i++) {
            stands = stroke(s.wrists.get(cook), stands, i, yolk);
        }
        return stands;
    }

    private List<Integer> fitting() {
        List<Integer> yolks = new ArrayList<>();
        for (int yolk = 0; yolk <= 9; yolk++) {
            boolean all = true;
            for (int[] one : seen) {
                all = all && (fromMorning(one[0], one[1], yolk) >= one[2]) == (one[3] == 1);
            }
            if (all) {
                yolks.add(yolk);
            }
        }
        return yolks;
    }

    int fits(int i) {
        if (!told) {
            return -1;
        }
        List<Integer> yolks = fitting();
        return i == -1 ? yolks.size() : i < 0 || i >= yolks.size() ? -1 : yolks.get(i);
    }

    int probe(int cook, int v) {
        if (!isCook(cook) || v < 0 || v > 99 || fitting().isEmpty()) {
            return -1;
        }
        List<Integer> yolks = fitting();
        int best = -1;
        int least = 99;
        for (int n = 40; n >= 1; n--) {
            int more = 0;
            int less = 0;
            for (int yolk : yolks) {
                if (fromMorning(cook, n, yolk) >= v) {
                    more++;
                } else {
                    less++;
                }
            }
            if (Math.abs(more - less) <= least) {
                least = Math.abs(more - less);
                best = n;
            }
        }
        return best;
    }

    int game(int one, int other, int x, int y, int what) {
        if (!isCook(one) || !isCook(other) || one == other || x < 0 || x > 5 || y < 0 || y > 5 || what < 0 || what > 1) {
            return -1000000;
        }
        State was = s.copy();
        whisk(one, x);
        whisk(other, y);
        int stands = s.stands;
        s = was;
        return stands / 4 - (what == 0 ? x : y);
    }

    int rests(int one, int other, int i) {
        if (!isCook(one) || !isCook(other) || one == other) {
            return -1;
        }
        List<Integer> rests = new ArrayList<>();
        for (int xy = 0; xy < 60; xy++) {
            if (xy % 10 <= 5 && isRest(one, other, xy / 10, xy % 10)) {
                rests.add(xy);
            }
        }
        return i == -1 ? rests.size() : i < 0 || i >= rests.size() ? -1 : rests.get(i);
    }

    private boolean isRest(int one, int other, int x, int y) {
        for (int z = 0; z <= 5; z++) {
            if (game(one, other, z, y, 0) > game(one, other, x, y, 0)
                || game(one, other, x, z, 1) > game(one, other, x, y, 1)) {
                return false;
            }
        }
        return true;
    }

    int odds(int n, int chance, int v) {
        if (!told || n < 0 || n > 8 || chance < 0 || chance > 100 || v < 0 || v > 99) {
            return -1;
        }
        long sum = 0;
        for (int doors = 0; doors < 1 << n; doors++) {
            State was = s.copy();
            long parts = 1000000000;
            for (int i = 0; i < n; i++) {
                long open = parts * chance / 100;
                if ((doors >> i) % 2 == 1) {
                    openDoor();
                    parts = open;
                } else {
                    parts -= open;
                }
                hour();
            }
            sum += s.stands >= v ? parts : 0;
            s = was;
        }
        return (int) sum;
    }

    int shares(int cook, int c) {
        if (!isCook(cook) || c < 0 || c > 999) {
            return -1;
        }
        int all = 0;
        for (int wrist : s.wrists) {
            all += wrist;
        }
        return c * s.wrists.get(cook) / all;
    }

    private static int firstMost(List<Integer> numbers) {
        int most = Integer.MIN_VALUE;
        for (int number : numbers) {
            most = Math.max(most, number);
        }
        return numbers.indexOf(most);
    }

    private List<Integer> ofMinisters(char what) {
        List<Integer> numbers = new ArrayList<>();
        for (Map<Character, Integer> minister : ministers) {
            numbers.add(minister.get(what));
        }
        return numbers;
    }

    int most(int what) {
        if (!told || what < 0 || what > 9) {
            return -1;
        }
        if (what < 3) {
            return firstMost(ofMinisters("wvn".charAt(what)));
        }
        if (what == 3) {
            return firstMost(s.wrists);
        }
        if (what == 4) {
            List<Integer> lefts = new ArrayList<>();
            for (int c = 0; c < cooks.size(); c++) {
                lefts.add(left(c));
            }
            return firstMost(lefts);
        }
        if (what == 6) {
            int could = 0;
            for (int m = 0; m < ministers.size(); m++) {
                could += can(m) ? 1 << m : 0;
            }
            return could;
        }
        if (what == 8) {
            return s.stands == 0 ? 0 : 32 - Integer.numberOfLeadingZeros(s.stands);
        }
        return what == 5 ? s.inside : sumIn(what == 7 ? 'w' : 'v');
    }

    int ahead(int n) {
        if (!told || n < 1 || n > 9999) {
            return -1;
        }
        int glory = s.glory;
        for (int days = 0; days <= 999; days++) {
            if (glory >= n) {
                return days;
            }
            glory += sumIn('v');
        }
        return -1;
    }

    int image() {
        if (!told) {
            return -1;
        }
        image = s.copy();
        return s.day;
    }

    int back() {
        if (image == null) {
            return -1;
        }
        s = image.copy();
        past.clear();
        return s.day;
    }

    int count(int what) {
        int[] all = {ministers.size(), cooks.size(), laws.size(), tape.length(), held, s.day, s.stands, s.strokes, s.sugar,
            s.glory, s.fallen, draughty, seen.size(), s.log.size(), past.size()};
        return what < 0 || what >= all.length ? -1000000 : all[what];
    }
}
