import java.nio.file.Files;
import java.nio.file.Path;
import java.util.List;
import java.util.regex.Matcher;
import java.util.regex.Pattern;

/** The rules of LANGUAGE.md that can be seen in the source line by line. */
public final class SourceTest {
    private static final String[] FORBIDDEN = {
        "->", "::", "\\bcatch\\b", "\\bfinally\\b", "\\bsynchronized\\b", "\\bassert\\b", "\\bvar\\b", "\\bnative\\b",
        "Exact\\b", "\\bSystem\\.(?!arraycopy)", "\\bdouble\\b", "\\bfloat\\b", "\\bequals\\b", "\\bhashCode\\b",
        "\\btoString\\b", "\\bvolatile\\b", "\\bThread\\b", "\\bObject\\b", "\\bclone\\b", "\\bprotected\\b",
        "@Suppress", "\\bstatic \\{", "\\bMath\\.random\\b", "\\bString\\b", "\\bextends\\b", "\\bpackage\\b"
    };

    public static void main(String[] args) throws Exception {
        Check check = new Check();
        Path file = Path.of("src/main/java/WhiskedDuchy.java");
        List<String> lines = Files.readAllLines(file);
        int classes = 0;
        int throwsSeen = 0;
        for (String line : lines) {
            String code = line.trim().startsWith("*") ? "" : line.replaceAll("//.*|/\\*.*", "");
            for (String word : FORBIDDEN) {
                check.due("'" + word + "' in: " + line, Pattern.compile(word).matcher(code).find(), false);
            }
            if (code.startsWith("import ")) {
                check.due(code, code.matches("import java\\.util\\.(Arrays|NoSuchElementException);"), true);
            }
            classes += code.matches(".*\\bclass \\w+.*") ? 1 : 0;
            throwsSeen += code.contains("throw new") ? 1 : 0;
            check.due("only signs 9 to 126: " + line, line.chars().allMatch(c -> c == 9 || c >= 32 && c < 127), true);
        }
        check.due("twelve classes at most", classes <= 12, true);
        check.due("one throw", throwsSeen, 1);
        methods(check, lines);
        check.finish();
    }

    private static void methods(Check check, List<String> lines) {
        Pattern head = Pattern.compile("^( +)(?:(?:public|private|static) )*[\\w\\[\\]]+ ?(\\w*)\\(([^)]*)\\)[\\w ]* \\{$");
        for (int i = 0; i < lines.size(); i++) {
            Matcher matcher = head.matcher(lines.get(i));
            if (!matcher.matches() || lines.get(i).matches(" +(if|for|while|switch|return|}).*")) {
                continue;
            }
            int end = i;
            while (!lines.get(end).equals(matcher.group(1) + "}")) {
                end++;
            }
            check.due("60 lines at most: " + lines.get(i), end - i <= 60, true);
            check.due("seven parameters at most: " + lines.get(i), matcher.group(3).split(",").length <= 7, true);
        }
    }
}
