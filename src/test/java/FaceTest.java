import java.lang.reflect.Constructor;
import java.lang.reflect.Field;
import java.lang.reflect.Method;
import java.lang.reflect.Modifier;
import java.util.TreeSet;

/** The public face is the document's, and nothing else is to be seen (rule 1 of LANGUAGE.md). */
public final class FaceTest {
    private static final String[] METHODS = {
        "int feed(int,int,int,int,int)", "boolean end(int)", "int fault(int)", "int text(int)", "int rule(int)",
        "int cook(int,int)", "int minister(int,int)", "boolean law(int)", "int strokes(int,int)", "int fold(int)",
        "int sugar()", "int door()", "int hours(int)", "int practise(int)", "int yolk()", "int give(int)",
        "int days(int)", "boolean draught(int)", "int years(int,long)", "int status(int)", "int undo()",
        "int log(int,int)", "int behind(int,int)", "int soonest(int,int)", "int stop(int,int)", "int best(int)",
        "int byTurns(int,int,int)", "int row(int)", "int lasts()", "int holds(int)", "int seen(int,int,int,boolean)",
        "int fits(int)", "int probe(int,int)", "int game(int,int,int,int,int)", "int rests(int,int,int)",
        "int odds(int,int,int)", "int shares(int,int)", "int most(int)", "int ahead(int)", "int image()",
        "int back()", "int count(int)"
    };

    public static void main(String[] args) {
        Check check = new Check();
        check.due("NONE", WhiskedDuchy.NONE, -1);
        check.due("HIDDEN", WhiskedDuchy.HIDDEN, -1000000);
        check.due("final", Modifier.isFinal(WhiskedDuchy.class.getModifiers()), true);
        check.due("constructors", WhiskedDuchy.class.getDeclaredConstructors().length, 1);
        for (Constructor<?> made : WhiskedDuchy.class.getDeclaredConstructors()) {
            check.due("the constructor is public", Modifier.isPublic(made.getModifiers()), true);
        }
        methods(check);
        fields(check);
        for (Class<?> inside : WhiskedDuchy.class.getDeclaredClasses()) {
            int flags = inside.getModifiers();
            check.due(inside + " is static", Modifier.isStatic(flags), true);
            check.due(inside + " is hidden", Modifier.isPublic(flags) || Modifier.isProtected(flags), false);
            for (Method method : inside.getDeclaredMethods()) {
                for (String other : METHODS) {
                    check.due(inside + " has " + method.getName(), other.contains(" " + method.getName() + "("), false);
                }
            }
        }
        check.finish();
    }

    private static void methods(Check check) {
        TreeSet<String> seen = new TreeSet<>();
        TreeSet<String> publicNames = new TreeSet<>();
        for (String method : METHODS) {
            publicNames.add(method.substring(method.indexOf(' ') + 1, method.indexOf('(')));
        }
        for (Method method : WhiskedDuchy.class.getDeclaredMethods()) {
            if (Modifier.isPrivate(method.getModifiers())) {
                check.due("private " + method.getName(), publicNames.contains(method.getName()), false);
            } else if (!method.isSynthetic()) {
                check.due("public " + method.getName(), Modifier.isPublic(method.getModifiers()), true);
                seen.add(signature(method));
            }
        }
        for (String method : METHODS) {
            check.due("has " + method, seen.remove(method), true);
        }
        check.due("no others than " + seen, seen.size(), 0);
    }

    private static String signature(Method method) {
        StringBuilder text = new StringBuilder(method.getReturnType() + " " + method.getName() + "(");
        for (Class<?> type : method.getParameterTypes()) {
            text.append(text.charAt(text.length() - 1) == '(' ? "" : ",").append(type);
        }
        return text.append(")").toString();
    }

    private static void fields(Check check) {
        for (Field field : WhiskedDuchy.class.getDeclaredFields()) {
            int flags = field.getModifiers();
            boolean isConstant = field.getName().equals("NONE") || field.getName().equals("HIDDEN");
            check.due("field " + field.getName(), isConstant ? Modifier.isPublic(flags) : Modifier.isPrivate(flags), true);
            check.due("static " + field.getName(), Modifier.isStatic(flags) && !Modifier.isFinal(flags), false);
        }
    }
}
