import java.util.Arrays;
import java.util.NoSuchElementException;

/** A duchy whose government is whisked up every morning in a bowl; DOC.md says what each call answers. */
public final class WhiskedDuchy {
    public static final int NONE = -1;
    public static final int HIDDEN = -1000000;

    private static final int NO_SUCH_SORT = -2;
    private static final int DUCHY_TEXT = 0;
    private static final int LAW_TEXT = 1;

    // The kinds of clauses that a duchy is told by, and the places of their items.
    private static final int RULES = 0;
    private static final int COOK = 1;
    private static final int MINISTER = 2;
    private static final int AGE = 0;
    private static final int YOLK = 1;
    private static final int COPPER = 2;
    private static final int PURSE = 3;
    private static final int WRIST = 0;
    private static final int ENDURANCE = 1;
    private static final int WEIGHT = 0;
    private static final int VALUE = 1;
    private static final int NEED = 2;
    private static final int LOSS = 3;

    // Why an act was refused, as status tells it.
    private static final int NO_SUCH = 0;
    private static final int OUT_OF_BOUNDS = 1;
    private static final int ALREADY_SO = 2;
    private static final int TOO_LITTLE = 3;
    private static final int TOO_LATE = 4;

    private static final int STIFFEST_STAND = 99;
    private static final int MOST_STROKES = 40;
    private static final int MOST_SUGAR = 9;
    private static final int MOST_WRIST = 9;
    private static final int MOST_YOLK = 9;
    private static final int MOST_IN_PURSE = 999;
    private static final int MOST_GLORY = 9999;
    private static final int LAST_DAY = 999;
    private static final int SUGAR_PRICE = 2;
    private static final int LESSON_PRICE = 4;
    private static final int SPOON_PRICE = 3;
    private static final int GAME_SIDE = 6;
    private static final long ALL_PARTS = 1000000000L;

    private final Tape tape;
    private final DuchyReader duchyReader;
    private final LawReader lawReader;
    private final Laws laws;
    private final Told told;
    private final Bowl now;
    private final Past past;
    private final Log diary;
    private final Bowl imageBowl;
    private final Log imageDiary;
    private final Sightings sightings;
    private final Rows rows;
    private final Draws draws;
    private final int[] refused;
    private final int[] stoodBy;
    private final int[] stoodInGame;
    private boolean isDuchy;
    private boolean isImage;
    private int draughty;

    public WhiskedDuchy() {
        tape = new Tape();
        duchyReader = new DuchyReader(tape);
        lawReader = new LawReader(tape);
        laws = new Laws();
        told = new Told();
        now = new Bowl();
        past = new Past();
        diary = new Log();
        imageBowl = new Bowl();
        imageDiary = new Log();
        sightings = new Sightings();
        rows = new Rows(told, now);
        draws = new Draws();
        refused = new int[TOO_LATE + 1];
        stoodBy = new int[MOST_YOLK + 1];
        stoodInGame = new int[GAME_SIDE * GAME_SIDE];
        draughty = 2;
    }

    // ---- texts ----

    public int feed(int a, int b, int c, int d, int e) {
        int more = Tape.signsIn(a) + Tape.signsIn(b) + Tape.signsIn(c) + Tape.signsIn(d) + Tape.signsIn(e);
        if (tape.size() + more > Tape.LIMIT) {
            return NONE;
        }
        tape.put(a);
        tape.put(b);
        tape.put(c);
        tape.put(d);
        tape.put(e);
        return tape.size();
    }

    public boolean end(int n) {
        return tape.cutBehind(n);
    }

    public int fault(int sort) {
        if (sort == DUCHY_TEXT) {
            return duchyReader.firstFault();
        }
        return sort == LAW_TEXT ? lawReader.firstFault() : NO_SUCH_SORT;
    }

    public int text(int sort) {
        if (sort == DUCHY_TEXT && duchyReader.firstFault() == NONE) {
            tape.cutBehind(0);
            beginDuchy();
            return told.howMany(MINISTER);
        }
        if (sort == LAW_TEXT && !laws.isFull() && lawReader.firstFault() == NONE) {
            tape.cutBehind(0);
            return laws.add(lawReader.code());
        }
        return NONE;
    }

    private void beginDuchy() {
        told.copyFrom(duchyReader.read());
        now.begin(told);
        past.clear();
        sightings.clear();
        isDuchy = true;
        isImage = false;
    }

    public boolean law(int law) {
        return laws.choose(law);
    }

    // ---- what was told, and how it is now ----

    public int rule(int what) {
        if (!isDuchy) {
            return NONE;
        }
        switch (what) {
            case AGE:
            case COPPER:
                return told.item(RULES, 0, what);
            case YOLK:
                return now.yolk;
            case PURSE:
                return now.purse;
            default:
                return NONE;
        }
    }

    public int cook(int cook, int what) {
        if (!hasCook(cook)) {
            return NONE;
        }
        switch (what) {
            case 0:
                return now.wristOf(cook);
            case 1:
                return told.item(COOK, cook, ENDURANCE);
            case 2:
                return now.tiredOf(cook);
            default:
                return NONE;
        }
    }

    public int minister(int minister, int what) throws NoSuchElementException {
        if (!hasMinister(minister) || !isWithin(0, what, 4)) {
            throw new NoSuchElementException("no such minister");
        }
        if (what == 4) {
            return isInside(minister) ? 1 : 0;
        }
        return told.item(MINISTER, minister, what);
    }

    private boolean hasCook(int cook) {
        return isDuchy && isWithin(0, cook, told.howMany(COOK) - 1);
    }

    private boolean hasTwoCooks(int one, int other) {
        return hasCook(one) && hasCook(other) && one != other;
    }

    private boolean hasMinister(int minister) {
        return isDuchy && isWithin(0, minister, told.howMany(MINISTER) - 1);
    }

    private boolean isInside(int minister) {
        return (now.inside >> minister & 1) != 0;
    }

    private int sumInside(int what) {
        int sum = 0;
        for (int m = 0; m < told.howMany(MINISTER); m++) {
            sum += isInside(m) ? told.item(MINISTER, m, what) : 0;
        }
        return sum;
    }

    private int strokesLeft(int cook) {
        return told.item(COOK, cook, ENDURANCE) - now.tiredOf(cook);
    }

    private boolean canFold(int minister) {
        return !isInside(minister) && now.stands >= told.item(MINISTER, minister, NEED);
    }

    private int couldFold() {
        int could = 0;
        for (int m = 0; m < told.howMany(MINISTER); m++) {
            could |= canFold(m) ? 1 << m : 0;
        }
        return could;
    }

    // ---- what changes the bowl, whoever asks for it ----

    /** How it stands behind one stroke. */
    private int whisked(int wrist, int stands, int strokes, int yolk) {
        int age = told.item(RULES, 0, AGE);
        int copper = told.item(RULES, 0, COPPER);
        int gives = laws.chosen() == NONE
            ? wrist + 2 * copper - yolk - 3 * (strokes / 10)
            : laws.worth(wrist, stands, strokes, yolk, age, copper);
        int more = within(-9, gives, 9);
        return within(0, stands + more, STIFFEST_STAND);
    }

    private void whisk(int cook, int n) {
        int wrist = now.wristOf(cook);
        for (int i = 0; i < n; i++) {
            now.stands = whisked(wrist, now.stands, now.strokes, now.yolk);
            now.strokes++;
        }
        now.tire(cook, n);
    }

    private void foldIn(int minister) {
        now.stands = Math.max(0, now.stands - told.item(MINISTER, minister, LOSS));
        now.inside |= 1 << minister;
    }

    private void openDoor() {
        now.stands = now.stands / 2;
        fallIfFlat();
    }

    private void passHour() {
        now.stands = sunk(now.stands, sinksBy());
        fallIfFlat();
    }

    private int sinksBy() {
        int weighed = sumInside(WEIGHT) / 4;
        return Math.max(0, 1 + told.item(RULES, 0, AGE) / 3 + weighed - now.sugar);
    }

    private static int sunk(int stands, int by) {
        return Math.max(0, stands - by);
    }

    private void fallIfFlat() {
        if (now.stands == 0 && now.inside != 0) {
            now.inside = 0;
            now.fallen++;
        }
    }

    private void passDay() {
        now.glory = Math.min(MOST_GLORY, now.glory + sumInside(VALUE));
        now.purse = Math.min(MOST_IN_PURSE, now.purse + 2);
        diary.write(now.day, now.stands, now.inside, now.strokes);
        now.day++;
        now.beginMorning();
    }

    private void passDrawnDay() {
        int cook = draws.below(told.howMany(COOK));
        int strokes = draws.below(10) + 5;
        whisk(cook, Math.min(strokes, strokesLeft(cook)));
        int ministers = told.howMany(MINISTER);
        for (int i = 0; i < ministers; i++) {
            int minister = draws.below(ministers);
            if (canFold(minister)) {
                foldIn(minister);
            }
        }
        if (draws.below(10) < draughty) {
            openDoor();
        }
        passDay();
    }

    // ---- acts ----

    private int refuse(int why) {
        if (isWithin(0, why, refused.length - 1)) {
            refused[why]++;
        }
        return NONE;
    }

    public int strokes(int cook, int n) {
        if (!hasCook(cook)) {
            return refuse(NO_SUCH);
        }
        if (!isWithin(1, n, MOST_STROKES)) {
            return refuse(OUT_OF_BOUNDS);
        }
        if (n > strokesLeft(cook)) {
            return refuse(TOO_LITTLE);
        }
        past.keep(now);
        whisk(cook, n);
        return now.stands;
    }

    public int fold(int minister) {
        if (!hasMinister(minister)) {
            return refuse(NO_SUCH);
        }
        if (isInside(minister)) {
            return refuse(ALREADY_SO);
        }
        if (!canFold(minister)) {
            return refuse(TOO_LITTLE);
        }
        past.keep(now);
        foldIn(minister);
        return now.stands;
    }

    public int sugar() {
        if (!isDuchy) {
            return refuse(NO_SUCH);
        }
        if (now.sugar >= MOST_SUGAR) {
            return refuse(ALREADY_SO);
        }
        if (now.purse < SUGAR_PRICE) {
            return refuse(TOO_LITTLE);
        }
        past.keep(now);
        now.purse -= SUGAR_PRICE;
        now.sugar++;
        return now.sugar;
    }

    public int door() {
        if (!isDuchy) {
            return refuse(NO_SUCH);
        }
        past.keep(now);
        openDoor();
        return now.stands;
    }

    public int hours(int n) {
        if (!isDuchy) {
            return refuse(NO_SUCH);
        }
        if (!isWithin(1, n, 20)) {
            return refuse(OUT_OF_BOUNDS);
        }
        for (int i = 0; i < n; i++) {
            past.keep(now);
            passHour();
        }
        return now.stands;
    }

    public int practise(int cook) {
        if (!hasCook(cook)) {
            return refuse(NO_SUCH);
        }
        if (now.wristOf(cook) >= MOST_WRIST) {
            return refuse(ALREADY_SO);
        }
        if (now.purse < LESSON_PRICE) {
            return refuse(TOO_LITTLE);
        }
        past.keep(now);
        now.purse -= LESSON_PRICE;
        now.strengthen(cook);
        return now.wristOf(cook);
    }

    public int yolk() {
        if (!isDuchy) {
            return refuse(NO_SUCH);
        }
        if (now.yolk <= 0) {
            return refuse(ALREADY_SO);
        }
        if (now.purse < SPOON_PRICE) {
            return refuse(TOO_LITTLE);
        }
        past.keep(now);
        now.purse -= SPOON_PRICE;
        now.yolk--;
        return now.yolk;
    }

    public int give(int n) {
        if (!isDuchy) {
            return refuse(NO_SUCH);
        }
        if (!isWithin(1, n, 50) || now.purse + n > MOST_IN_PURSE) {
            return refuse(OUT_OF_BOUNDS);
        }
        past.keep(now);
        now.purse += n;
        return now.purse;
    }

    public int days(int n) {
        if (!isDuchy) {
            return refuse(NO_SUCH);
        }
        if (!isWithin(1, n, 60)) {
            return refuse(OUT_OF_BOUNDS);
        }
        if (now.day + n > LAST_DAY) {
            return refuse(TOO_LATE);
        }
        for (int i = 0; i < n; i++) {
            past.keep(now);
            passDay();
        }
        return now.day;
    }

    public boolean draught(int v) {
        if (!isWithin(0, v, 9) || v == draughty) {
            return false;
        }
        draughty = v;
        return true;
    }

    public int years(int n, long seed) {
        if (!isDuchy || !isWithin(1, n, 60) || now.day + n > LAST_DAY) {
            return NONE;
        }
        draws.begin(seed);
        for (int i = 0; i < n; i++) {
            past.keep(now);
            passDrawnDay();
        }
        return now.day;
    }

    public int status(int what) {
        return isWithin(0, what, refused.length - 1) ? refused[what] : NONE;
    }

    public int undo() {
        return past.takeBack(now) ? past.size() : NONE;
    }

    public int log(int i, int what) {
        if (!isWithin(0, i, logSize() - 1) || !isWithin(0, what, Log.WIDTH - 1)) {
            return NONE;
        }
        return diary.read(now.day - 1 - i, what);
    }

    // Each day writes one entry, and undone days take theirs along, so the day tells how long the log is.
    private int logSize() {
        return Math.min(Log.SHOWN, now.day);
    }

    // ---- what would be, apart ----

    public int behind(int cook, int n) {
        if (!hasCook(cook) || !isWithin(0, n, MOST_STROKES)) {
            return NONE;
        }
        int count = Math.min(n, strokesLeft(cook));
        return whiskedOften(now.wristOf(cook), now.stands, now.strokes, now.yolk, count);
    }

    private int whiskedOften(int wrist, int stands, int strokes, int yolk, int count) {
        int stood = stands;
        for (int i = 0; i < count; i++) {
            stood = whisked(wrist, stood, strokes + i, yolk);
        }
        return stood;
    }

    public int soonest(int cook, int v) {
        return hasCook(cook) && isStand(v) ? soonestOf(cook, v) : NONE;
    }

    private int soonestOf(int cook, int v) {
        int wrist = now.wristOf(cook);
        int left = strokesLeft(cook);
        int stood = now.stands;
        for (int n = 0; n <= left; n++) {
            if (stood >= v) {
                return n;
            }
            stood = whisked(wrist, stood, now.strokes + n, now.yolk);
        }
        return NONE;
    }

    public int stop(int cook, int what) {
        if (!hasCook(cook) || !isWithin(0, what, 1)) {
            return NONE;
        }
        int wrist = now.wristOf(cook);
        int left = strokesLeft(cook);
        int stood = now.stands;
        int bestStood = stood;
        int bestCount = 0;
        for (int n = 1; n <= left; n++) {
            stood = whisked(wrist, stood, now.strokes + n - 1, now.yolk);
            if (stood > bestStood) {
                bestStood = stood;
                bestCount = n;
            }
        }
        return what == 0 ? bestCount : bestStood;
    }

    public int best(int v) {
        if (!isDuchy || !isStand(v)) {
            return NONE;
        }
        int bestCook = NONE;
        int fewest = 0;
        for (int c = 0; c < told.howMany(COOK); c++) {
            int n = soonestOf(c, v);
            if (n != NONE && (bestCook == NONE || n < fewest)) {
                bestCook = c;
                fewest = n;
            }
        }
        return bestCook;
    }

    public int byTurns(int one, int other, int v) {
        if (!hasTwoCooks(one, other) || !isStand(v)) {
            return NONE;
        }
        int leftToOne = strokesLeft(one);
        int leftToOther = strokesLeft(other);
        int all = leftToOne + leftToOther;
        int stood = now.stands;
        boolean isOnesTurn = true;
        for (int n = 0; n <= all; n++) {
            if (stood >= v) {
                return n;
            }
            boolean isOne = leftToOther <= 0 || isOnesTurn && leftToOne > 0;
            stood = whisked(now.wristOf(isOne ? one : other), stood, now.strokes + n, now.yolk);
            leftToOne -= isOne ? 1 : 0;
            leftToOther -= isOne ? 0 : 1;
            isOnesTurn = !isOne;
        }
        return NONE;
    }

    public int row(int what) {
        if (!isDuchy || !isWithin(0, what, 2)) {
            return NONE;
        }
        int best = rows.bestSet();
        if (what == 0) {
            return best == 0 ? NONE : rows.leastRowOf(best);
        }
        return what == 1 ? rows.valueOf(best) : rows.standsBehind(best);
    }

    public int lasts() {
        if (!isDuchy) {
            return NONE;
        }
        // Nobody falls out before it stands at 0, so it sinks alike each hour.
        int by = sinksBy();
        int stood = now.stands;
        for (int n = 0; n <= 60; n++) {
            if (stood == 0) {
                return n;
            }
            stood = sunk(stood, by);
        }
        return NONE;
    }

    public int holds(int n) {
        if (!isDuchy || !isWithin(0, n, 20)) {
            return NONE;
        }
        int needed = n * sinksBy() + 1;
        return needed <= STIFFEST_STAND ? needed : NONE;
    }

    // ---- what the yolk may be ----

    public int seen(int cook, int n, int v, boolean is) {
        if (!hasCook(cook) || !isWithin(1, n, MOST_STROKES) || !isStand(v) || sightings.isFull()) {
            return NONE;
        }
        sightings.add(cook, n, v, is);
        return sightings.size();
    }

    public int fits(int i) {
        if (!isDuchy) {
            return NONE;
        }
        int fitting = fittingYolks();
        return i == NONE ? Integer.bitCount(fitting) : placeOfBit(fitting, i);
    }

    private static int placeOfBit(int bits, int i) {
        int ahead = 0;
        for (int place = 0; place < 31; place++) {
            if ((bits >> place & 1) != 0) {
                if (ahead == i) {
                    return place;
                }
                ahead++;
            }
        }
        return NONE;
    }

    private int fittingYolks() {
        int fitting = 0;
        for (int yolk = 0; yolk <= MOST_YOLK; yolk++) {
            fitting |= isFitting(yolk) ? 1 << yolk : 0;
        }
        return fitting;
    }

    private boolean isFitting(int yolk) {
        for (int c = 0; c < told.howMany(COOK); c++) {
            int wrist = now.wristOf(c);
            int furthest = sightings.furthestOf(c);
            int stood = 0;
            for (int n = 1; n <= furthest; n++) {
                stood = whisked(wrist, stood, n - 1, yolk);
                if (sightings.isAgainst(c, n, stood)) {
                    return false;
                }
            }
        }
        return true;
    }

    public int probe(int cook, int v) {
        if (!hasCook(cook) || !isStand(v)) {
            return NONE;
        }
        int fitting = fittingYolks();
        if (fitting == 0) {
            return NONE;
        }
        Arrays.fill(stoodBy, 0);
        int bestCount = NONE;
        int leastApart = 0;
        for (int n = 1; n <= MOST_STROKES; n++) {
            int reached = whiskAllYolks(fitting, now.wristOf(cook), n - 1, v);
            int apart = Math.abs(2 * reached - Integer.bitCount(fitting));
            if (bestCount == NONE || apart < leastApart) {
                bestCount = n;
                leastApart = apart;
            }
        }
        return bestCount;
    }

    /** One stroke more for each yolk that fits: for how many it stands at v or more then. */
    private int whiskAllYolks(int fitting, int wrist, int strokes, int v) {
        int reached = 0;
        for (int yolk = 0; yolk < stoodBy.length; yolk++) {
            if ((fitting >> yolk & 1) != 0) {
                stoodBy[yolk] = whisked(wrist, stoodBy[yolk], strokes, yolk);
                reached += stoodBy[yolk] >= v ? 1 : 0;
            }
        }
        return reached;
    }

    // ---- games, odds, shares ----

    public int game(int one, int other, int x, int y, int what) {
        boolean isPlay = isWithin(0, x, GAME_SIDE - 1) && isWithin(0, y, GAME_SIDE - 1);
        if (!hasTwoCooks(one, other) || !isPlay || !isWithin(0, what, 1)) {
            return HIDDEN;
        }
        int first = whiskedOften(now.wristOf(one), now.stands, now.strokes, now.yolk, x);
        int stood = whiskedOften(now.wristOf(other), first, now.strokes + x, now.yolk, y);
        return stood / 4 - (what == 0 ? x : y);
    }

    public int rests(int one, int other, int i) {
        if (!hasTwoCooks(one, other)) {
            return NONE;
        }
        playAll(one, other);
        int found = 0;
        for (int place = 0; place < stoodInGame.length; place++) {
            int x = place / GAME_SIDE;
            int y = place % GAME_SIDE;
            if (isRest(x, y)) {
                if (found == i) {
                    return 10 * x + y;
                }
                found++;
            }
        }
        return i == NONE ? found : NONE;
    }

    private void playAll(int one, int other) {
        int first = now.stands;
        for (int x = 0; x < GAME_SIDE; x++) {
            int stood = first;
            for (int y = 0; y < GAME_SIDE; y++) {
                int place = x * GAME_SIDE + y;
                if (place < stoodInGame.length) {
                    stoodInGame[place] = stood;
                }
                stood = whisked(now.wristOf(other), stood, now.strokes + x + y, now.yolk);
            }
            first = whisked(now.wristOf(one), first, now.strokes + x, now.yolk);
        }
    }

    private int quarterOf(int x, int y) {
        int place = x * GAME_SIDE + y;
        return isWithin(0, place, stoodInGame.length - 1) ? stoodInGame[place] / 4 : 0;
    }

    private boolean isRest(int x, int y) {
        int quarter = quarterOf(x, y);
        for (int another = 0; another < GAME_SIDE; another++) {
            if (quarterOf(another, y) - another > quarter - x || quarterOf(x, another) - another > quarter - y) {
                return false;
            }
        }
        return true;
    }

    public int odds(int n, int chance, int v) {
        if (!isDuchy || !isWithin(0, n, 8) || !isWithin(0, chance, 100) || !isStand(v)) {
            return NONE;
        }
        return (int) partsAt(n, ALL_PARTS, now.stands, sinksBy(), chance, v);
    }

    /** Of these parts those by which it stands at v or more; once all are out it is flat, so what they weighed can't matter. */
    private static long partsAt(int hours, long parts, int stands, int by, int chance, int v) {
        if (hours <= 0 || parts == 0) {
            return stands >= v ? parts : 0;
        }
        long open = parts * chance / 100;
        return partsAt(hours - 1, open, sunk(stands / 2, by), by, chance, v)
            + partsAt(hours - 1, parts - open, sunk(stands, by), by, chance, v);
    }

    public int shares(int cook, int c) {
        if (!hasCook(cook) || !isWithin(0, c, 999)) {
            return NONE;
        }
        int all = 0;
        for (int k = 0; k < told.howMany(COOK); k++) {
            all += now.wristOf(k);
        }
        return all > 0 ? c * now.wristOf(cook) / all : 0;
    }

    public int most(int what) {
        if (!isDuchy) {
            return NONE;
        }
        switch (what) {
            case 0:
                return firstMinisterByMost(WEIGHT);
            case 1:
                return firstMinisterByMost(VALUE);
            case 2:
                return firstMinisterByMost(NEED);
            case 3:
                return strongestCook();
            case 4:
                return freshestCook();
            case 5:
                return now.inside;
            case 6:
                return couldFold();
            case 7:
                return sumInside(WEIGHT);
            case 8:
                return doorsToFlat();
            case 9:
                return sumInside(VALUE);
            default:
                return NONE;
        }
    }

    private int firstMinisterByMost(int what) {
        int first = 0;
        for (int m = 1; m < told.howMany(MINISTER); m++) {
            first = told.item(MINISTER, m, what) > told.item(MINISTER, first, what) ? m : first;
        }
        return first;
    }

    private int strongestCook() {
        int first = 0;
        for (int c = 1; c < told.howMany(COOK); c++) {
            first = now.wristOf(c) > now.wristOf(first) ? c : first;
        }
        return first;
    }

    private int freshestCook() {
        int first = 0;
        for (int c = 1; c < told.howMany(COOK); c++) {
            first = strokesLeft(c) > strokesLeft(first) ? c : first;
        }
        return first;
    }

    private int doorsToFlat() {
        int doors = 0;
        for (int stood = now.stands; stood > 0; stood /= 2) {
            doors++;
        }
        return doors;
    }

    public int ahead(int n) {
        if (!isDuchy || !isWithin(1, n, MOST_GLORY)) {
            return NONE;
        }
        int missing = n - now.glory;
        int daily = sumInside(VALUE);
        if (missing <= 0) {
            return 0;
        }
        int needed = daily > 0 ? (missing + daily - 1) / daily : LAST_DAY + 1;
        return needed <= LAST_DAY ? needed : NONE;
    }

    // ---- images ----

    public int image() {
        if (!isDuchy) {
            return NONE;
        }
        imageBowl.copyFrom(now);
        imageDiary.copyFrom(diary);
        isImage = true;
        return now.day;
    }

    public int back() {
        if (!isImage) {
            return NONE;
        }
        now.copyFrom(imageBowl);
        diary.copyFrom(imageDiary);
        past.clear();
        return now.day;
    }

    public int count(int what) {
        switch (what) {
            case 0:
                return told.howMany(MINISTER);
            case 1:
                return told.howMany(COOK);
            case 2:
                return laws.size();
            case 3:
                return tape.size();
            case 4:
                return laws.chosen();
            case 5:
                return now.day;
            case 6:
                return now.stands;
            case 7:
                return now.strokes;
            case 8:
                return now.sugar;
            case 9:
                return now.glory;
            case 10:
                return now.fallen;
            case 11:
                return draughty;
            case 12:
                return sightings.size();
            case 13:
                return logSize();
            case 14:
                return past.size();
            default:
                return HIDDEN;
        }
    }

    private static boolean isWithin(int least, int x, int most) {
        return x >= least && x <= most;
    }

    private static boolean isStand(int v) {
        return isWithin(0, v, STIFFEST_STAND);
    }

    private static int within(int least, int x, int most) {
        return Math.max(least, Math.min(most, x));
    }

    /** The bytes that were fed, and the place up to which a reader has read them. */
    private static final class Tape {
        static final int LIMIT = 240;
        static final int OVER = -1;

        private final int[] bytes = new int[LIMIT];
        private int size;
        private int at;

        int size() {
            return size;
        }

        /** How many of the four bytes of a number are signs (0 is none). */
        static int signsIn(int four) {
            int many = 0;
            for (int shift = 24; shift >= 0; shift -= 8) {
                many += (four >>> shift & 255) != 0 ? 1 : 0;
            }
            return many;
        }

        void put(int four) {
            for (int shift = 24; shift >= 0; shift -= 8) {
                int one = four >>> shift & 255;
                if (one != 0 && size < bytes.length) {
                    bytes[size] = one;
                    size++;
                }
            }
        }

        boolean cutBehind(int n) {
            if (n < 0 || n > size) {
                return false;
            }
            size = n;
            return true;
        }

        void rewind() {
            at = 0;
        }

        /** Where the reader stands: behind look(), the byte that the next sign begins at. */
        int at() {
            return at;
        }

        /** The next sign behind blanks, OVER at the end. */
        int look() {
            while (at >= 0 && at < size && at < bytes.length && bytes[at] == ' ') {
                at++;
            }
            return at >= 0 && at < size && at < bytes.length ? bytes[at] : OVER;
        }

        void step() {
            at++;
        }

        void stepBack() {
            at--;
        }

        boolean take(char sign) {
            if (look() != sign) {
                return false;
            }
            at++;
            return true;
        }

        /**
         * The number that the sign looked at begins; NONE, if it begins none or one of too many digits
         * (then it stands at the first of these).
         */
        int number(int mostDigits) {
            int number = NONE;
            for (int i = 0; i < mostDigits && isDigitHere(); i++) {
                number = 10 * Math.max(0, number) + bytes[at] - '0';
                at++;
            }
            return isDigitHere() ? NONE : number;
        }

        private boolean isDigitHere() {
            return at >= 0 && at < size && at < bytes.length && bytes[at] >= '0' && bytes[at] <= '9';
        }

        static boolean isDigit(int sign) {
            return sign >= '0' && sign <= '9';
        }
    }

    /** What the text of a duchy tells: items by kind, number and place. */
    private static final class Told {
        private static final char[] CLAUSE_SIGNS = {'s', 'k', 'm'};
        private static final int[] MOST_CLAUSES = {1, 4, 7};
        // The items of all kinds in one line: 0 .. 3 of rules, 4 .. 5 of a cook, 6 .. 9 of a minister.
        private static final int[] FIRST_ITEM = {0, 4, 6};
        private static final int[] ITEMS = {4, 2, 4};
        private static final char[] SIGNS = {'a', 'y', 'c', 'p', 'w', 'e', 'w', 'v', 'n', 'l'};
        private static final int[] LEAST = {0, 0, 0, 0, 1, 1, 0, 0, 0, 0};
        private static final int[] MOST = {9, 9, 1, 99, 9, 40, 9, 9, 40, 9};
        private static final int[] WITHOUT = {2, 0, 0, 20, 4, 15, 2, 3, 10, 1};
        // Where the values of each kind begin: rules, four cooks, seven ministers.
        private static final int[] FIRST_VALUE = {0, 4, 12};
        private static final int ALL_VALUES = 40;

        private final int[] values = new int[ALL_VALUES];
        private final int[] many = new int[3];

        void clear() {
            Arrays.fill(many, 0);
            fillWithout(RULES, 0);
        }

        void copyFrom(Told other) {
            System.arraycopy(other.values, 0, values, 0, ALL_VALUES);
            System.arraycopy(other.many, 0, many, 0, 3);
        }

        int howMany(int kind) {
            return isKind(kind) ? many[kind] : 0;
        }

        boolean isFull(int kind) {
            return !isKind(kind) || many[kind] >= MOST_CLAUSES[kind];
        }

        /** The kind of clause that a sign begins, NONE if it begins none. */
        static int kindBy(int sign) {
            for (int kind = 0; kind < CLAUSE_SIGNS.length; kind++) {
                if (CLAUSE_SIGNS[kind] == sign) {
                    return kind;
                }
            }
            return NONE;
        }

        /** The item that a letter tells in a clause of this kind, NONE if it tells none. */
        static int itemBy(int kind, int sign) {
            int items = isKind(kind) ? ITEMS[kind] : 0;
            for (int what = 0; what < items; what++) {
                int item = lineOf(kind, what);
                if (item != NONE && SIGNS[item] == sign) {
                    return what;
                }
            }
            return NONE;
        }

        static boolean isAllowed(int kind, int what, int value) {
            int item = lineOf(kind, what);
            return item != NONE && isWithin(LEAST[item], value, MOST[item]);
        }

        /** A clause more of this kind, as it is without items: its number. */
        int add(int kind) {
            if (isFull(kind)) {
                return NONE;
            }
            int number = many[kind];
            many[kind]++;
            fillWithout(kind, number);
            return number;
        }

        private void fillWithout(int kind, int number) {
            int items = isKind(kind) ? ITEMS[kind] : 0;
            for (int what = 0; what < items; what++) {
                int item = lineOf(kind, what);
                set(kind, number, what, item == NONE ? 0 : WITHOUT[item]);
            }
        }

        void set(int kind, int number, int what, int value) {
            int place = placeOf(kind, number, what);
            if (place != NONE) {
                values[place] = value;
            }
        }

        int item(int kind, int number, int what) {
            int place = placeOf(kind, number, what);
            return place == NONE ? 0 : values[place];
        }

        private static boolean isKind(int kind) {
            return kind >= RULES && kind <= MINISTER;
        }

        private static int lineOf(int kind, int what) {
            if (!isKind(kind) || what < 0 || what >= ITEMS[kind]) {
                return NONE;
            }
            return FIRST_ITEM[kind] + what;
        }

        private static int placeOf(int kind, int number, int what) {
            if (!isKind(kind) || number < 0 || number >= MOST_CLAUSES[kind] || what < 0 || what >= ITEMS[kind]) {
                return NONE;
            }
            return FIRST_VALUE[kind] + number * ITEMS[kind] + what;
        }
    }

    /** Reads the tape as a duchy. */
    private static final class DuchyReader {
        private final Tape tape;
        private final Told read = new Told();

        DuchyReader(Tape tape) {
            this.tape = tape;
        }

        Told read() {
            return read;
        }

        /** The fault of the tape as a duchy, NONE if it has none: then read() has it. */
        int firstFault() {
            read.clear();
            tape.rewind();
            for (int i = 0; i <= Tape.LIMIT; i++) {
                if (!isClauseNext()) {
                    return tape.at();
                }
                if (!tape.take(';')) {
                    break;
                }
            }
            boolean isWhole = read.howMany(COOK) > 0 && read.howMany(MINISTER) > 0;
            return tape.look() == Tape.OVER && isWhole ? NONE : tape.at();
        }

        // False leaves the tape at the byte that is wrong.
        private boolean isClauseNext() {
            int kind = Told.kindBy(tape.look());
            if (kind == NONE || read.isFull(kind)) {
                return false;
            }
            tape.step();
            int number = read.add(kind);
            int found = 0;
            for (int i = 0; i <= Tape.LIMIT; i++) {
                int what = Told.itemBy(kind, tape.look());
                if (what == NONE) {
                    return true;
                }
                if ((found >> what & 1) != 0) {
                    return false;
                }
                found |= 1 << what;
                tape.step();
                if (!isValueNext(kind, number, what)) {
                    return false;
                }
            }
            return true;
        }

        private boolean isValueNext(int kind, int number, int what) {
            int value = Tape.isDigit(tape.look()) ? tape.number(2) : NONE;
            if (value == NONE) {
                return false;
            }
            if (!Told.isAllowed(kind, what, value)) {
                tape.stepBack();
                return false;
            }
            read.set(kind, number, what, value);
            return true;
        }
    }

    /**
     * Reads the tape as a law, and writes it as signs each behind what it works on: a number as
     * itself, any other sign below 0. No byte of the tape makes more than one of these.
     */
    private static final class LawReader {
        private static final int DEEPEST = 6;

        private final Tape tape;
        private final int[] written = new int[Tape.LIMIT];
        private int size;

        LawReader(Tape tape) {
            this.tape = tape;
        }

        int[] code() {
            return Arrays.copyOf(written, size);
        }

        private void write(int sign) {
            if (size >= 0 && size < written.length) {
                written[size] = sign;
                size++;
            }
        }

        /** The fault of the tape as a law, NONE if it has none: then code() has it. */
        int firstFault() {
            size = 0;
            tape.rewind();
            for (int i = 0; i <= Tape.LIMIT; i++) {
                if (!isClauseNext()) {
                    return tape.at();
                }
                write(-';');
                if (!tape.take(';')) {
                    break;
                }
            }
            return tape.look() == Tape.OVER ? NONE : tape.at();
        }

        // Of all that follows: false leaves the tape at the byte that is wrong.
        private boolean isClauseNext() {
            if (!tape.take('y') || !tape.take(':')) {
                return false;
            }
            int sign = tape.look();
            if (sign == '!' || sign == '(') {
                return isConditionNext(0) && isSumBehindCondition();
            }
            if (!isSumNext(0)) {
                return false;
            }
            if (!isComparison(tape.look())) {
                return true;
            }
            return isComparedNext(0) && areUnitsNext(0) && areTruthsNext(0) && isSumBehindCondition();
        }

        private boolean isSumBehindCondition() {
            if (!tape.take('?')) {
                return false;
            }
            write(-'?');
            return isSumNext(0);
        }

        private boolean isConditionNext(int depth) {
            return isTruthNext(depth) && areTruthsNext(depth);
        }

        private boolean areTruthsNext(int depth) {
            for (int i = 0; i < Tape.LIMIT && tape.take('|'); i++) {
                if (!isTruthNext(depth)) {
                    return false;
                }
                write(-'|');
            }
            return true;
        }

        private boolean isTruthNext(int depth) {
            return isUnitNext(depth) && areUnitsNext(depth);
        }

        private boolean areUnitsNext(int depth) {
            for (int i = 0; i < Tape.LIMIT && tape.take('&'); i++) {
                if (!isUnitNext(depth)) {
                    return false;
                }
                write(-'&');
            }
            return true;
        }

        private boolean isUnitNext(int depth) {
            int sign = tape.look();
            if (sign != '!' && sign != '(') {
                return isSumNext(depth) && isComparedNext(depth);
            }
            if (depth >= DEEPEST) {
                return false;
            }
            tape.step();
            if (sign == '(') {
                return isConditionNext(depth + 1) && tape.take(')');
            }
            if (!isUnitNext(depth + 1)) {
                return false;
            }
            write(-'!');
            return true;
        }

        private boolean isComparedNext(int depth) {
            int sign = tape.look();
            if (!isComparison(sign)) {
                return false;
            }
            tape.step();
            if (!isSumNext(depth)) {
                return false;
            }
            write(-sign);
            return true;
        }

        private static boolean isComparison(int sign) {
            return sign == '=' || sign == '<' || sign == '>';
        }

        private boolean isSumNext(int depth) {
            if (!isTermNext(depth)) {
                return false;
            }
            for (int i = 0; i < Tape.LIMIT; i++) {
                int sign = tape.look();
                if (sign != '+' && sign != '-') {
                    break;
                }
                tape.step();
                if (!isTermNext(depth)) {
                    return false;
                }
                write(-sign);
            }
            return true;
        }

        private boolean isTermNext(int depth) {
            if (!isAtomNext(depth)) {
                return false;
            }
            for (int i = 0; i < Tape.LIMIT; i++) {
                int sign = tape.look();
                if (sign != '*' && sign != '/') {
                    break;
                }
                tape.step();
                if (!isAtomNext(depth)) {
                    return false;
                }
                write(-sign);
            }
            return true;
        }

        private boolean isAtomNext(int depth) {
            int sign = tape.look();
            if (Tape.isDigit(sign)) {
                int number = tape.number(4);
                write(number);
                return number != NONE;
            }
            if (isLetter(sign)) {
                tape.step();
                write(-sign);
                return true;
            }
            if (sign != '[' || depth >= DEEPEST) {
                return false;
            }
            tape.step();
            return isSumNext(depth + 1) && tape.take(']');
        }

        private static boolean isLetter(int sign) {
            return sign == 'w' || sign == 's' || sign == 'n' || sign == 'y' || sign == 'a' || sign == 'c';
        }
    }

    /** The laws, which of them holds, and what it is worth. */
    private static final class Laws {
        private static final int ROOM = 4;
        private static final int FURTHEST = 1000000;

        private final int[][] codes = new int[ROOM][0];
        private int size;
        private int chosen = NONE;
        // Six nested signs keep two numbers each at most; the rest is room to spare.
        private final int[] pile = new int[64];
        private int top;
        private int wrist;
        private int stands;
        private int strokes;
        private int yolk;
        private int age;
        private int copper;

        int size() {
            return size;
        }

        boolean isFull() {
            return size >= ROOM;
        }

        int chosen() {
            return chosen;
        }

        int add(int[] code) {
            if (isFull()) {
                return NONE;
            }
            codes[size] = code;
            size++;
            return size - 1;
        }

        boolean choose(int law) {
            if (law < NONE || law >= size) {
                return false;
            }
            chosen = law;
            return true;
        }

        /** Worth by the law that holds. */
        int worth(int wrist, int stands, int strokes, int yolk, int age, int copper) {
            this.wrist = wrist;
            this.stands = stands;
            this.strokes = strokes;
            this.yolk = yolk;
            this.age = age;
            this.copper = copper;
            top = 0;
            boolean isPassedOver = false;
            int size = chosen >= 0 && chosen < codes.length ? codes[chosen].length : 0;
            for (int at = 0; at < size; at++) {
                int sign = codes[chosen][at];
                if (isPassedOver) {
                    isPassedOver = sign != -';';
                } else if (sign == -';') {
                    return pop();
                } else if (sign == -'?') {
                    isPassedOver = pop() == 0;
                } else if (sign >= 0) {
                    push(sign);
                } else {
                    apply(-sign);
                }
            }
            return 0;
        }

        // All that any sign gives comes here, so numbers are held here.
        private void push(long number) {
            if (top >= 0 && top < pile.length) {
                pile[top] = (int) Math.max(-FURTHEST, Math.min(FURTHEST, number));
                top++;
            }
        }

        private int pop() {
            if (top <= 0 || top > pile.length) {
                return 0;
            }
            top--;
            return pile[top];
        }

        private void apply(int sign) {
            switch (sign) {
                case 'w':
                    push(wrist);
                    break;
                case 's':
                    push(stands);
                    break;
                case 'n':
                    push(strokes);
                    break;
                case 'y':
                    push(yolk);
                    break;
                case 'a':
                    push(age);
                    break;
                case 'c':
                    push(copper);
                    break;
                case '!':
                    push(pop() == 0 ? 1 : 0);
                    break;
                default:
                    long right = pop();
                    long left = pop();
                    push(joined(sign, left, right));
                    break;
            }
        }

        private static long joined(int sign, long left, long right) {
            switch (sign) {
                case '+':
                    return left + right;
                case '-':
                    return left - right;
                case '*':
                    return left * right;
                case '/':
                    return right == 0 ? 0 : left / right;
                case '=':
                    return left == right ? 1 : 0;
                case '<':
                    return left < right ? 1 : 0;
                case '>':
                    return left > right ? 1 : 0;
                case '&':
                    return left & right;
                case '|':
                    return left | right;
                default:
                    return 0;
            }
        }
    }

    /** All that an act can change but the log. */
    private static final class Bowl {
        private int stands;
        private int strokes;
        private int inside;
        private int sugar;
        private int yolk;
        private int purse;
        private int glory;
        private int fallen;
        private int day;
        private final int[] tired = new int[4];
        private final int[] wrists = new int[4];

        /** The first morning of a duchy. */
        void begin(Told told) {
            beginMorning();
            yolk = told.item(RULES, 0, YOLK);
            purse = told.item(RULES, 0, PURSE);
            glory = 0;
            fallen = 0;
            day = 0;
            for (int cook = 0; cook < wrists.length; cook++) {
                wrists[cook] = told.item(COOK, cook, WRIST);
            }
        }

        void beginMorning() {
            stands = 0;
            strokes = 0;
            inside = 0;
            sugar = 0;
            Arrays.fill(tired, 0);
        }

        void copyFrom(Bowl other) {
            stands = other.stands;
            strokes = other.strokes;
            inside = other.inside;
            sugar = other.sugar;
            yolk = other.yolk;
            purse = other.purse;
            glory = other.glory;
            fallen = other.fallen;
            day = other.day;
            System.arraycopy(other.tired, 0, tired, 0, tired.length);
            System.arraycopy(other.wrists, 0, wrists, 0, wrists.length);
        }

        int tiredOf(int cook) {
            return cook >= 0 && cook < tired.length ? tired[cook] : 0;
        }

        int wristOf(int cook) {
            return cook >= 0 && cook < wrists.length ? wrists[cook] : 0;
        }

        void tire(int cook, int strokes) {
            if (cook >= 0 && cook < tired.length) {
                tired[cook] += strokes;
            }
        }

        void strengthen(int cook) {
            if (cook >= 0 && cook < wrists.length) {
                wrists[cook]++;
            }
        }
    }

    /** How it was ahead of each of the latest acts, in a ring. */
    private static final class Past {
        private static final int ROOM = 40;

        private final Bowl[] kept = new Bowl[ROOM];
        private int size;
        private int next;

        int size() {
            return size;
        }

        void clear() {
            size = 0;
        }

        void keep(Bowl bowl) {
            if (next < 0 || next >= kept.length) {
                return;
            }
            // Made once when first needed, then used again.
            if (kept[next] == null) {
                kept[next] = new Bowl();
            }
            kept[next].copyFrom(bowl);
            next = (next + 1) % ROOM;
            size = Math.min(ROOM, size + 1);
        }

        boolean takeBack(Bowl bowl) {
            int latest = (next + ROOM - 1) % ROOM;
            if (size <= 0 || latest < 0 || latest >= kept.length || kept[latest] == null) {
                return false;
            }
            bowl.copyFrom(kept[latest]);
            next = latest;
            size--;
            return true;
        }
    }

    /** How days ended, by the day; it keeps as many behind those shown as can be undone, and more. */
    private static final class Log {
        static final int SHOWN = 60;
        static final int WIDTH = 3;
        private static final int KEPT = 100;

        private final int[] ends = new int[KEPT * WIDTH];

        void write(int day, int stood, int inside, int strokes) {
            int place = placeOf(day);
            if (place >= 0 && place + 2 < ends.length) {
                ends[place] = stood;
                ends[place + 1] = inside;
                ends[place + 2] = strokes;
            }
        }

        int read(int day, int what) {
            int place = placeOf(day) + what;
            return place >= 0 && place < ends.length ? ends[place] : NONE;
        }

        void copyFrom(Log other) {
            System.arraycopy(other.ends, 0, ends, 0, ends.length);
        }

        private static int placeOf(int day) {
            return Math.floorMod(day, KEPT) * WIDTH;
        }
    }

    /** What was seen of how it stood. */
    private static final class Sightings {
        private static final int ROOM = 10;

        private final int[] cooks = new int[ROOM];
        private final int[] strokes = new int[ROOM];
        private final int[] marks = new int[ROOM];
        private final boolean[] reached = new boolean[ROOM];
        private int size;

        int size() {
            return size;
        }

        boolean isFull() {
            return size >= ROOM;
        }

        void clear() {
            size = 0;
        }

        void add(int cook, int n, int v, boolean is) {
            if (size < 0 || size >= ROOM) {
                return;
            }
            cooks[size] = cook;
            strokes[size] = n;
            marks[size] = v;
            reached[size] = is;
            size++;
        }

        /** The most strokes of a cook that something was seen behind, 0 without. */
        int furthestOf(int cook) {
            int furthest = 0;
            for (int i = 0; i < size && i < ROOM; i++) {
                furthest = cooks[i] == cook ? Math.max(furthest, strokes[i]) : furthest;
            }
            return furthest;
        }

        boolean isAgainst(int cook, int n, int stood) {
            for (int i = 0; i < size && i < ROOM; i++) {
                if (cooks[i] == cook && strokes[i] == n && (stood >= marks[i]) != reached[i]) {
                    return true;
                }
            }
            return false;
        }
    }

    /**
     * Seeks the best row of folding, over sets of ministers: how it stands behind a row and what the
     * row is worth is alike for all orders of one set, and the least row of a set is the least of a
     * smaller set and one minister more.
     */
    private static final class Rows {
        private static final int SETS = 128;

        private final Told told;
        private final Bowl bowl;
        private final int[] least = new int[SETS];
        private final int[] losses = new int[SETS];
        private final int[] values = new int[SETS];

        Rows(Told told, Bowl bowl) {
            this.told = told;
            this.bowl = bowl;
        }

        /** The set of the best row, for all that the others here answer of it. */
        int bestSet() {
            int best = 0;
            int sets = Math.min(SETS, 1 << told.howMany(MINISTER));
            least[0] = 0;
            for (int set = 1; set < sets; set++) {
                int lowest = Integer.numberOfTrailingZeros(set);
                int others = set & set - 1;
                losses[set] = losses[others] + told.item(MINISTER, lowest, LOSS);
                values[set] = values[others] + told.item(MINISTER, lowest, VALUE);
                least[set] = leastRowTo(set);
                if (least[set] != NONE && isBetter(set, best)) {
                    best = set;
                }
            }
            return best;
        }

        int leastRowOf(int set) {
            return set >= 0 && set < SETS ? least[set] : NONE;
        }

        int valueOf(int set) {
            return set >= 0 && set < SETS ? values[set] : 0;
        }

        int standsBehind(int set) {
            return set >= 0 && set < SETS ? Math.max(0, bowl.stands - losses[set]) : 0;
        }

        private int leastRowTo(int set) {
            if ((set & bowl.inside) != 0) {
                return NONE;
            }
            int row = NONE;
            for (int last = 0; last < told.howMany(MINISTER); last++) {
                if ((set >> last & 1) != 0 && canEnd(set, last)) {
                    int candidate = 10 * leastRowOf(set & ~(1 << last)) + last;
                    row = row == NONE ? candidate : Math.min(row, candidate);
                }
            }
            return row;
        }

        private boolean canEnd(int set, int last) {
            int others = set & ~(1 << last);
            return leastRowOf(others) != NONE && standsBehind(others) >= told.item(MINISTER, last, NEED);
        }

        private boolean isBetter(int set, int best) {
            int byValue = valueOf(set) - valueOf(best);
            if (byValue != 0) {
                return byValue > 0;
            }
            int byStand = standsBehind(set) - standsBehind(best);
            if (byStand != 0) {
                return byStand > 0;
            }
            int byLength = Integer.bitCount(set) - Integer.bitCount(best);
            if (byLength != 0) {
                return byLength < 0;
            }
            return leastRowOf(set) < leastRowOf(best);
        }
    }

    /** Draws by a seed. */
    private static final class Draws {
        private long x;

        void begin(long seed) {
            x = seed;
        }

        int below(int j) {
            x = x * 6364136223846793005L + 1442695040888963407L;
            return j > 0 ? (int) ((x >>> 33) % j) : 0;
        }
    }
}
