import java.lang.reflect.InvocationTargetException;
import java.lang.reflect.Method;
import java.lang.reflect.Modifier;
import java.nio.file.Files;
import java.nio.file.Path;
import java.util.ArrayList;
import java.util.List;
import java.util.TreeSet;
import java.util.regex.Matcher;
import java.util.regex.Pattern;
import java.util.stream.Collectors;
import java.util.stream.Stream;

/** What README.md says is so: each call in it answers what stands behind it, and it names all calls and all tests. */
public final class ReadmeTest {
    private static final Pattern CALL = Pattern.compile(" {4}x\\.(\\w+)\\((.*)\\); +// (-?\\w+)(?::.*)?");
    private static final Check check = new Check();

    public static void main(String[] args) throws Exception {
        String page = Files.readString(Path.of("README.md"));
        int called = calls(page);
        check.due("calls in README.md are found", called > 10, true);
        namesAllCalls(page);
        namesAllTests(page);
        check.due(".ci/run can be run", Files.isExecutable(Path.of(".ci/run")), true);
        check.finish();
    }

    private static int calls(String page) throws Exception {
        WhiskedDuchy x = null;
        int called = 0;
        for (String line : page.split("\n")) {
            if (line.equals("    WhiskedDuchy x = new WhiskedDuchy();")) {
                x = new WhiskedDuchy();
            } else if (line.startsWith("    x.")) {
                Matcher matcher = CALL.matcher(line);
                boolean isCall = matcher.matches();
                check.due("a call with its answer: " + line, isCall, true);
                if (isCall) {
                    String got = answer(x, matcher.group(1), matcher.group(2));
                    check.due(line.trim() + " answered " + got, got.equals(matcher.group(3)), true);
                    called++;
                }
            }
        }
        return called;
    }

    /** The answer as README.md writes it, the exception's name where it throws. */
    private static String answer(WhiskedDuchy x, String name, String arguments) throws Exception {
        List<Object> numbers = new ArrayList<>();
        for (String argument : arguments.isEmpty() ? new String[0] : arguments.split(", ")) {
            numbers.add(argument.equals("WhiskedDuchy.NONE") ? WhiskedDuchy.NONE : Integer.decode(argument).intValue());
        }
        for (Method method : WhiskedDuchy.class.getMethods()) {
            if (method.getName().equals(name) && method.getParameterCount() == numbers.size()) {
                try {
                    return String.valueOf(method.invoke(x, numbers.toArray()));
                } catch (InvocationTargetException e) {
                    return e.getCause().getClass().getSimpleName();
                }
            }
        }
        return "no such call";
    }

    private static void namesAllCalls(String page) {
        for (Method method : WhiskedDuchy.class.getDeclaredMethods()) {
            if (Modifier.isPublic(method.getModifiers())) {
                String row = "(?s).*\n\\| [^\n]*`" + method.getName() + "`[^\n]*\\|\n.*";
                check.due("README.md names " + method.getName(), page.matches(row), true);
            }
        }
    }

    private static void namesAllTests(String page) throws Exception {
        TreeSet<String> named = new TreeSet<>();
        Matcher matcher = Pattern.compile("`(\\w+Test)`").matcher(page);
        while (matcher.find()) {
            named.add(matcher.group(1));
        }
        TreeSet<String> tests;
        try (Stream<Path> files = Files.list(Path.of("src/test/java"))) {
            tests = files.map(file -> file.getFileName().toString().replace(".java", ""))
                .filter(name -> name.endsWith("Test")).collect(Collectors.toCollection(TreeSet::new));
        }
        check.due("README.md names " + named + ", there are " + tests, named.equals(tests), true);
    }
}
