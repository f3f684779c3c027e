import com.sun.management.ThreadMXBean;
import java.lang.management.ManagementFactory;
import java.lang.reflect.Array;
import java.lang.reflect.Field;
import java.lang.reflect.Modifier;
import java.util.ArrayDeque;
import java.util.Collections;
import java.util.IdentityHashMap;
import java.util.Set;

/**
 * Rule 12 of LANGUAGE.md: what a run makes is counted, and all of it lives in one room of some 600,000 objects
 * and 7.3 million fields and elements. An object with all that it can keep takes less than a thousandth of
 * that, and once it keeps all of it, no call makes anything more.
 */
public final class RoomTest {
    private static final int MOST_OBJECTS = 600;
    private static final int MOST_PLACES = 7300;
    private static final int CALLS = 512;
    private static final Check check = new Check();
    private static final ThreadMXBean threads = (ThreadMXBean) ManagementFactory.getThreadMXBean();

    private final WhiskedDuchy x = new WhiskedDuchy();
    private int calls = 0;
    // Summed up so that no call can be left out as one whose answer nobody wants.
    private long answers = 0;

    public static void main(String[] args) {
        threads.getCurrentThreadAllocatedBytes();
        // At first the machine itself makes something where it first comes to a call; later it may leave out
        // what a call that is made often makes in vain. So each is looked at by itself.
        check.due("next to nothing is made at first", madeByCalls() < 2000, true);
        check.due("bytes that calls make later", madeByCalls(), 0);
        check.finish();
    }

    /** How many bytes are made by all calls behind those by which a new object keeps all that it can. */
    private static long madeByCalls() {
        RoomTest test = new RoomTest();
        test.fill();
        check.due("all laws are told", test.x.count(2), 4);
        check.due("as many acts as can be kept", test.x.count(14), 40);
        test.calls += 2;
        long was = threads.getCurrentThreadAllocatedBytes();
        test.askAll();
        long made = threads.getCurrentThreadAllocatedBytes() - was;
        check.due("calls were made up to the last", test.calls, CALLS);
        kept(test.x);
        return made;
    }

    private void answered(int answer) {
        calls++;
        answers += answer;
    }

    private void answered(boolean answer) {
        answered(answer ? 1 : 0);
    }

    private void fill() {
        tellDuchy();
        for (int law = 0; law < 4; law++) {
            tellLaw();
            answered(x.law(law));
        }
        answered(x.years(60, 5));
    }

    /** Four cooks and seven ministers. */
    private void tellDuchy() {
        int cooks = 'k' << 24 | ';' << 16 | 'k' << 8 | ';';
        int ministers = 'm' << 24 | ';' << 16 | 'm' << 8 | ';';
        answered(x.feed(cooks, cooks, ministers, ministers, ministers));
        answered(x.feed('m', 0, 0, 0, 0));
        answered(x.text(0));
    }

    /** 239 bytes of the 240 that the tape has, each but two a sign of its own. */
    private void tellLaw() {
        int four = '1' << 24 | '+' << 16 | 'w' << 8 | '-';
        answered(x.feed('y' << 24 | ':' << 16 | '1' << 8 | '-', four, four, four, four));
        for (int i = 0; i < 10; i++) {
            answered(x.feed(four, four, four, four, four));
        }
        answered(x.feed(four, four, four, four, '1' << 24 | '+' << 16 | 'w' << 8));
        answered(x.text(1));
    }

    private void askAll() {
        tellDuchy();
        tellLaw();
        answered(x.fault(0));
        answered(x.fault(1));
        answered(x.end(3));
        for (int i = 0; i < 11; i++) {
            answered(x.seen(i % 4, 40, 1, true));
        }
        answered(x.years(60, 5));
        while (calls < CALLS) {
            if (calls % 2 == 0) {
                act(calls / 2 % 13);
            } else {
                ask(calls / 2 % 26);
            }
        }
    }

    private void act(int which) {
        switch (which) {
            case 0: answered(x.strokes(0, 1)); break;
            case 1: answered(x.fold(0)); break;
            case 2: answered(x.sugar()); break;
            case 3: answered(x.door()); break;
            case 4: answered(x.hours(20)); break;
            case 5: answered(x.practise(0)); break;
            case 6: answered(x.yolk()); break;
            case 7: answered(x.give(1)); break;
            case 8: answered(x.undo()); break;
            case 9: answered(x.years(2, which)); break;
            case 10: answered(x.image()); break;
            case 11: answered(x.days(2)); break;
            default: answered(x.back()); break;
        }
    }

    private void ask(int which) {
        switch (which) {
            case 0: answered(x.rule(0)); break;
            case 1: answered(x.cook(0, 0)); break;
            case 2: answered(x.minister(0, 4)); break;
            case 3: answered(x.status(0)); break;
            case 4: answered(x.log(0, 0)); break;
            case 5: answered(x.behind(0, 40)); break;
            case 6: answered(x.soonest(0, 99)); break;
            case 7: answered(x.stop(0, 0)); break;
            case 8: answered(x.best(99)); break;
            case 9: answered(x.byTurns(0, 1, 99)); break;
            case 10: answered(x.row(0)); break;
            case 11: answered(x.lasts()); break;
            case 12: answered(x.holds(20)); break;
            case 13: answered(x.fits(0)); break;
            case 14: answered(x.probe(0, 50)); break;
            case 15: answered(x.game(0, 1, 5, 5, 0)); break;
            case 16: answered(x.rests(0, 1, 0)); break;
            case 17: answered(x.odds(8, 33, 1)); break;
            case 18: answered(x.shares(0, 999)); break;
            case 19: answered(x.most(8)); break;
            case 20: answered(x.ahead(9999)); break;
            case 21: answered(x.count(13)); break;
            case 22: answered(x.draught(calls / 52 % 10)); break;
            case 23: answered(x.law(calls / 52 % 4)); break;
            case 24: answered(x.most(6)); break;
            default: answered(x.fault(0)); break;
        }
    }

    /** What the object holds: each object and array once, and their fields and elements. */
    private static void kept(Object from) {
        Set<Object> found = Collections.newSetFromMap(new IdentityHashMap<>());
        ArrayDeque<Object> open = new ArrayDeque<>();
        add(from, found, open);
        int places = 0;
        while (!open.isEmpty()) {
            Object one = open.remove();
            places += one.getClass().isArray() ? Array.getLength(one) : fields(one, found, open);
            if (one instanceof Object[] several) {
                for (Object inside : several) {
                    add(inside, found, open);
                }
            }
        }
        check.due("it holds " + found.size() + " objects and arrays", found.size() <= MOST_OBJECTS, true);
        check.due("it holds " + places + " fields and elements", places <= MOST_PLACES, true);
        check.due("and all that it keeps was found", found.size() > 100 && places > 3000, true);
    }

    private static int fields(Object one, Set<Object> found, ArrayDeque<Object> open) {
        int fields = 0;
        for (Field field : one.getClass().getDeclaredFields()) {
            if (!Modifier.isStatic(field.getModifiers())) {
                fields++;
                if (!field.getType().isPrimitive()) {
                    add(valueOf(field, one), found, open);
                }
            }
        }
        return fields;
    }

    private static Object valueOf(Field field, Object one) {
        try {
            field.setAccessible(true);
            return field.get(one);
        } catch (IllegalAccessException e) {
            throw new IllegalStateException(e);
        }
    }

    private static void add(Object one, Set<Object> found, ArrayDeque<Object> open) {
        if (one != null && found.add(one)) {
            open.add(one);
        }
    }
}
