import java.lang.reflect.Constructor;
import java.lang.reflect.Field;
import java.lang.reflect.Method;
import java.lang.reflect.Modifier;
import java.util.Set;
import java.util.TreeSet;

/** The public face of the document, and rule 1 of LANGUAGE.md: no other member can be seen from outside. */
public final class FaceTest {
    private static final String FACE = "[BAD, FULL, ReportCompiler(), boolean indicator(int), boolean level(int), "
            + "boolean operands(int,int,int,int), int card(int,int,int,int), int clear(), "
            + "int line(int,int,int,int), int printed(), int retract(), int run(), int text(int), int work(int)]";

    public static void main(String[] args) {
        Check check = new Check();
        check.due("BAD", ReportCompiler.BAD, -10000000);
        check.due("FULL", ReportCompiler.FULL, -10000001);
        membersAreThoseOfTheFace(check);
        check.end();
    }

    private static void membersAreThoseOfTheFace(Check check) {
        Set<String> seen = new TreeSet<>();
        Set<String> publicNames = new TreeSet<>();
        Set<String> privateNames = new TreeSet<>();
        for (Constructor<?> made : ReportCompiler.class.getDeclaredConstructors()) {
            seen.add("ReportCompiler(" + parameters(made.getParameterTypes()) + ")");
            check.due("a public constructor", Modifier.isPublic(made.getModifiers()), true);
        }
        for (Method method : ReportCompiler.class.getDeclaredMethods()) {
            check.due("at most seven parameters", method.getParameterCount() <= 7, true);
            if (Modifier.isPrivate(method.getModifiers())) {
                privateNames.add(method.getName());
            } else {
                check.due(method + " is public", Modifier.isPublic(method.getModifiers()), true);
                check.due(method + " is static", Modifier.isStatic(method.getModifiers()), false);
                publicNames.add(method.getName());
                seen.add(method.getReturnType() + " " + method.getName()
                        + "(" + parameters(method.getParameterTypes()) + ")");
            }
        }
        for (Field field : ReportCompiler.class.getDeclaredFields()) {
            if (!Modifier.isPrivate(field.getModifiers())) {
                check.due(field + " is public", Modifier.isPublic(field.getModifiers()), true);
                seen.add(field.getName());
            }
        }
        privateNames.retainAll(publicNames);
        check.due("private methods with a public one's name", privateNames.toString(), "[]");
        check.due("the face", seen.toString(), FACE);
        check.due("nested classes", ReportCompiler.class.getDeclaredClasses().length, 0);
        check.due("the class's modifiers", ReportCompiler.class.getModifiers(), Modifier.PUBLIC | Modifier.FINAL);
    }

    private static String parameters(Class<?>[] types) {
        StringBuilder names = new StringBuilder();
        for (Class<?> type : types) {
            names.append(names.length() == 0 ? "" : ",").append(type.getName());
        }
        return names.toString();
    }
}
