import java.lang.reflect.InvocationTargetException;
import java.lang.reflect.Method;
import java.util.ArrayList;
import java.util.Arrays;
import java.util.Comparator;
import java.util.List;
import java.util.Random;

/** Drawn runs of calls (the same each time), each answered by the class and by the Model. */
public final class ModelTest {
    private static final Check check = new Check();
    private static final int RUNS = 400;
    private static final int CALLS = 512;
    private static Random random;
    private static Method[] face;
    private static WhiskedDuchy duchy;
    private static Model model;
    private static List<String> calls;

    public static void main(String[] args) throws Exception {
        List<Method> methods = new ArrayList<>();
        for (Method method : WhiskedDuchy.class.getDeclaredMethods()) {
            if (java.lang.reflect.Modifier.isPublic(method.getModifiers())) {
                methods.add(method);
            }
        }
        methods.sort(Comparator.comparing(Method::getName));
        face = methods.toArray(new Method[0]);
        texts();
        for (int run = 0; run < RUNS; run++) {
            random = new Random(run);
            run(run);
        }
        check.finish();
    }

    private static void texts() {
        random = new Random(77);
        for (int i = 0; i < 20000; i++) {
            String text = i % 2 == 0 ? duchyText() : lawText(240);
            text = i % 4 < 2 ? text : spoilt(text);
            text = text.length() > 200 ? text.substring(0, 200) : text;
            check.due("fault of " + text, Check.faultOf(i % 2, text), Grammar.fault(i % 2, text));
        }
    }

    private static void run(int number) throws Exception {
        duchy = new WhiskedDuchy();
        model = new Model();
        calls = new ArrayList<>();
        boolean isWild = number % 10 == 9;
        while (calls.size() < CALLS) {
            int kind = random.nextInt(100);
            if (kind < 4 && (kind < 2 || model.rule(0) < 0)) {
                tell(0, kind == 0 ? spoilt(duchyText()) : duchyText());
            } else if (kind < 6) {
                tell(1, kind == 4 ? spoilt(lawText(60)) : lawText(60));
            } else if (kind < 35) {
                act();
            } else if (kind < 65) {
                ask();
            } else {
                Method method = face[random.nextInt(face.length)];
                call(method.getName(), arguments(method, isWild));
            }
        }
    }

    private static void tell(int sort, String text) throws Exception {
        if (random.nextInt(4) > 0) {
            call("end", 0);
        }
        for (int i = 0; i < text.length(); i += 20) {
            call("feed", Check.four(text, i), Check.four(text, i + 4), Check.four(text, i + 8), Check.four(text, i + 12),
                Check.four(text, i + 16));
        }
        call("fault", sort);
        call("text", sort);
    }

    /** Calls by which something happens; drawn at random alone they would mostly be refused. */
    private static void act() throws Exception {
        int cook = random.nextInt(4);
        switch (random.nextInt(12)) {
            case 0: case 1: case 2: call("strokes", cook, 1 + random.nextInt(12)); break;
            case 3: case 4: case 5: call("fold", random.nextInt(7)); break;
            case 6: call("give", 1 + random.nextInt(50)); break;
            case 7: call("sugar"); break;
            case 8: call("hours", 1 + random.nextInt(4)); break;
            case 9: call("days", 1 + random.nextInt(random.nextInt(5) == 0 ? 60 : 3)); break;
            case 10: call("years", 1 + random.nextInt(20), random.nextLong()); break;
            default: call("law", random.nextInt(5) - 1); break;
        }
    }

    /** Questions that mostly have an answer. */
    private static void ask() throws Exception {
        int cook = random.nextInt(4);
        int other = random.nextInt(4);
        int v = random.nextInt(100);
        switch (random.nextInt(16)) {
            case 0: call("soonest", cook, v); break;
            case 1: call("stop", cook, v % 2); break;
            case 2: call("best", v); break;
            case 3: case 4: call("byTurns", cook, other, v); break;
            case 5: case 6: call("row", v % 3); break;
            case 7: call("holds", random.nextInt(21)); break;
            case 8: call("seen", cook, 1 + random.nextInt(40), v, random.nextInt(100) > v); break;
            case 9: call("probe", cook, v); break;
            case 10: call("game", cook, other, random.nextInt(6), random.nextInt(6), v % 2); break;
            case 11: call("rests", cook, other, random.nextInt(4) - 1); break;
            case 12: call("odds", random.nextInt(9), random.nextInt(101), v); break;
            case 13: call("shares", cook, random.nextInt(1000)); break;
            case 14: call("ahead", 1 + random.nextInt(random.nextBoolean() ? 200 : 9999)); break;
            default: call("most", random.nextInt(10)); break;
        }
    }

    private static Object[] arguments(Method method, boolean isWild) {
        Class<?>[] types = method.getParameterTypes();
        Object[] arguments = new Object[types.length];
        for (int i = 0; i < types.length; i++) {
            if (types[i] == boolean.class) {
                arguments[i] = random.nextBoolean();
            } else if (types[i] == long.class) {
                arguments[i] = random.nextLong();
            } else {
                arguments[i] = number(isWild);
            }
        }
        return arguments;
    }

    private static int number(boolean isWild) {
        int[] wild = {Integer.MIN_VALUE, Integer.MAX_VALUE, -2, 1 << 30, -1000000, Integer.MIN_VALUE + 1};
        if (isWild && random.nextInt(3) == 0) {
            return random.nextBoolean() ? wild[random.nextInt(wild.length)] : random.nextInt();
        }
        switch (random.nextInt(8)) {
            case 0: return random.nextInt(103) - 2;
            case 1: return random.nextInt(43) - 1;
            case 2: return random.nextInt(12000) - 1000;
            case 3: return random.nextInt(12) - 1;
            default: return random.nextInt(5) - 1;
        }
    }

    private static void call(String name, Object... arguments) throws Exception {
        Method method = Arrays.stream(face).filter(m -> m.getName().equals(name)).findFirst().get();
        Method other = Model.class.getDeclaredMethod(name, method.getParameterTypes());
        Object got = answer(method, duchy, arguments);
        Object want = answer(other, model, arguments);
        calls.add(name + Arrays.toString(arguments));
        if (calls.size() <= CALLS) {
            check.due(got + " for " + want + " behind " + (calls.size() - 1) + " calls: " + calls.get(calls.size() - 1),
                got.equals(want), true);
        }
    }

    private static Object answer(Method method, Object of, Object[] arguments) throws Exception {
        try {
            return method.invoke(of, arguments);
        } catch (InvocationTargetException e) {
            if (method.getName().equals("minister") && e.getCause() instanceof java.util.NoSuchElementException) {
                return "NoSuchElementException";
            }
            throw new IllegalStateException("thrown by " + method.getName() + Arrays.toString(arguments), e);
        }
    }

    // ---- texts ----

    private static String blank() {
        return random.nextInt(25) == 0 ? " " : "";
    }

    private static String items(String letters, int... most) {
        StringBuilder text = new StringBuilder();
        for (int i = 0; i < letters.length(); i++) {
            if (random.nextInt(3) > 0) {
                int value = 1 + random.nextInt(most[i]);
                String zero = value < 10 && random.nextInt(9) == 0 ? "0" : "";
                text.append(letters.charAt(i)).append(blank()).append(zero).append(value).append(blank());
            }
        }
        return text.toString();
    }

    private static String duchyText() {
        List<String> clauses = new ArrayList<>();
        int cooks = 1 + random.nextInt(4);
        int ministers = 1 + random.nextInt(7);
        for (int i = 0; i < cooks; i++) {
            clauses.add("k" + blank() + items("we", 9, 40));
        }
        for (int i = 0; i < ministers; i++) {
            clauses.add(blank() + "m" + items("wvnl", 9, 9, random.nextBoolean() ? 40 : 10, 9));
        }
        if (random.nextInt(4) > 0) {
            clauses.add("s" + items("aycp", 9, random.nextBoolean() ? 9 : 2, 1, 99));
        }
        java.util.Collections.shuffle(clauses, random);
        return String.join(";", clauses);
    }

    private static String lawText(int most) {
        while (true) {
            StringBuilder text = new StringBuilder();
            int clauses = 1 + random.nextInt(3);
            for (int i = 0; i < clauses; i++) {
                text.append(i == 0 ? "" : ";").append("y").append(blank()).append(":");
                text.append(random.nextInt(3) > 0 ? condition(0) + "?" : "").append(sum(0));
            }
            if (text.length() <= most) {
                return text.toString();
            }
        }
    }

    private static String condition(int depth) {
        String unit;
        switch (random.nextInt(depth > 3 ? 1 : 6)) {
            case 1: unit = "!" + condition(depth + 1).split("[&|]")[0]; break;
            case 2: unit = "(" + condition(depth + 1) + ")"; break;
            default: unit = sum(depth) + "=<>".charAt(random.nextInt(3)) + sum(depth); break;
        }
        unit = unit.chars().filter(c -> c == '(').count() == unit.chars().filter(c -> c == ')').count() ? unit : "w=5";
        return random.nextInt(3) == 0 ? unit + blank() + "&|".charAt(random.nextInt(2)) + condition(depth + 1) : unit;
    }

    private static String sum(int depth) {
        String atom;
        switch (random.nextInt(depth > 3 ? 5 : 6)) {
            case 0: atom = "" + random.nextInt(10); break;
            case 1: atom = "" + random.nextInt(random.nextBoolean() ? 50 : 10000); break;
            case 5: atom = "[" + blank() + sum(depth + 1) + "]"; break;
            default: atom = "" + "wsnyac".charAt(random.nextInt(6)); break;
        }
        return random.nextInt(2) == 0 ? atom + "+-*/".charAt(random.nextInt(4)) + blank() + sum(depth + 1) : atom;
    }

    private static String spoilt(String text) {
        StringBuilder other = new StringBuilder(text);
        int times = 1 + random.nextInt(2);
        for (int i = 0; i < times && other.length() > 0; i++) {
            int at = random.nextInt(other.length());
            String signs = "kms;wevnlaycp0123456789 ?!()[]+-*/=<>&|:" + (char) 200;
            char sign = signs.charAt(random.nextInt(signs.length()));
            switch (random.nextInt(4)) {
                case 0: other.setCharAt(at, sign); break;
                case 1: other.insert(at, sign); break;
                case 2: other.deleteCharAt(at); break;
                default: other.setLength(at); break;
            }
        }
        return other.toString();
    }
}
