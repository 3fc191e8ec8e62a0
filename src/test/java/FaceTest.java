import java.io.IOException;
import java.lang.reflect.Constructor;
import java.lang.reflect.Field;
import java.lang.reflect.Method;
import java.lang.reflect.Modifier;
import java.nio.file.Files;
import java.nio.file.Path;
import java.util.Set;
import java.util.TreeSet;
import java.util.regex.Matcher;
import java.util.regex.Pattern;

/** The public face of the document, and the rules of LANGUAGE.md that can be read off the class or its file. */
public final class FaceTest {
    private static final String FACE = "[BAD, FULL, ReportCompiler(), boolean indicator(int), boolean level(int), "
            + "boolean operands(int,int,int,int), int card(int,int,int,int), int clear(), "
            + "int line(int,int,int,int), int printed(), int retract(), int run(), int text(int), int work(int)]";
    private static final String FORBIDDEN_WORDS = "import|package|interface|enum|record|float|double|String|Math"
            + "|Integer|Long|System|Arrays|Object|null|throw|throws|try|catch|finally|synchronized|assert"
            + "|instanceof|protected|equals|hashCode|toString|getClass|extends|implements|var";

    public static void main(String[] args) throws IOException {
        Check check = new Check();
        check.due("BAD", ReportCompiler.BAD, -10000000);
        check.due("FULL", ReportCompiler.FULL, -10000001);
        membersAreThoseOfTheFace(check);
        fieldsKeepToTheTypes(check);
        fileKeepsToTheWords(check);
        check.end();
    }

    private static void membersAreThoseOfTheFace(Check check) {
        Set<String> seen = new TreeSet<>();
        Set<String> publicNames = new TreeSet<>();
        Set<String> privateNames = new TreeSet<>();
        for (Constructor<?> made : ReportCompiler.class.getDeclaredConstructors()) {
            seen.add("ReportCompiler(" + parameters(made.getParameterTypes()) + ")");
            check.due("a public constructor", Modifier.isPublic(made.getModifiers()), true);
        }
        for (Method method : ReportCompiler.class.getDeclaredMethods()) {
            check.due("at most seven parameters", method.getParameterCount() <= 7, true);
            if (Modifier.isPrivate(method.getModifiers())) {
                privateNames.add(method.getName());
            } else {
                check.due(method + " is public", Modifier.isPublic(method.getModifiers()), true);
                check.due(method + " is static", Modifier.isStatic(method.getModifiers()), false);
                publicNames.add(method.getName());
                seen.add(method.getReturnType() + " " + method.getName()
                        + "(" + parameters(method.getParameterTypes()) + ")");
            }
        }
        for (Field field : ReportCompiler.class.getDeclaredFields()) {
            if (!Modifier.isPrivate(field.getModifiers())) {
                check.due(field + " is public", Modifier.isPublic(field.getModifiers()), true);
                seen.add(field.getName());
            }
        }
        privateNames.retainAll(publicNames);
        check.due("private methods with a public one's name", privateNames.toString(), "[]");
        check.due("the face", seen.toString(), FACE);
        check.due("nested classes", ReportCompiler.class.getDeclaredClasses().length, 0);
        check.due("the class's modifiers", ReportCompiler.class.getModifiers(), Modifier.PUBLIC | Modifier.FINAL);
    }

    private static String parameters(Class<?>[] types) {
        StringBuilder names = new StringBuilder();
        for (Class<?> type : types) {
            names.append(names.length() == 0 ? "" : ",").append(type.getName());
        }
        return names.toString();
    }

    private static void fieldsKeepToTheTypes(Check check) {
        int fields = 0;
        for (Field field : ReportCompiler.class.getDeclaredFields()) {
            Class<?> type = field.getType();
            if (Modifier.isStatic(field.getModifiers())) {
                check.due(field + " is a constant of int or long",
                        Modifier.isFinal(field.getModifiers()) && (type == int.class || type == long.class), true);
            } else {
                fields++;
                Class<?> element = type.isArray() ? type.getComponentType() : type;
                check.due(field + " has a type of LANGUAGE.md", element.isPrimitive()
                        && element != float.class && element != double.class, true);
            }
        }
        check.due("at most forty fields", fields <= 40, true);
    }

    private static void fileKeepsToTheWords(Check check) throws IOException {
        String file = Files.readString(Path.of("src/main/java/ReportCompiler.java"));
        String code = file.replaceAll("(?s)/\\*.*?\\*/", "").replaceAll("//[^\n]*", "");
        check.due("forbidden words", found(code, "\\b(" + FORBIDDEN_WORDS + ")\\b"), "");
        check.due("lambdas and method references", found(code, "->|::"), "");
        check.due("strings and annotations", found(code, "[\"@]"), "");
        String withoutFieldArrays = code.replaceAll("(?m)^    private final \\w+\\[\\] \\w+ = new \\w+\\[\\w+\\];$", "");
        check.due("arrays made outside the fields", found(withoutFieldArrays, "\\bnew\\b"), "");
    }

    private static String found(String code, String pattern) {
        Matcher matcher = Pattern.compile(pattern).matcher(code);
        return matcher.find() ? matcher.group() : "";
    }
}
