import java.io.File;
import java.io.IOException;
import java.lang.reflect.Method;
import java.lang.reflect.Modifier;
import java.nio.file.Files;
import java.nio.file.Path;
import java.util.Set;
import java.util.TreeSet;
import java.util.regex.Matcher;
import java.util.regex.Pattern;

/** README.md: its example answers what its comments say, and it leaves out no public method and no test. */
public final class ReadmeTest {
    private static final Pattern CALL = Pattern.compile("r\\.(\\w+)\\(([-0-9, ]*)\\); +// ([-\\w]+)(: .*)?");

    private final Check check = new Check();
    private final ReportCompiler r = new ReportCompiler();
    private final Set<String> called = new TreeSet<>();

    public static void main(String[] args) throws IOException, ReflectiveOperationException {
        String readme = Files.readString(Path.of("README.md"));
        ReadmeTest test = new ReadmeTest();
        test.followExample(readme);
        test.everyMethodIsTold(readme);
        test.everyTestIsTold(readme);
        test.check.end();
    }

    private void followExample(String readme) throws ReflectiveOperationException {
        int start = readme.indexOf("```java\n") + "```java\n".length();
        String[] rows = readme.substring(start, readme.indexOf("```", start)).split("\n");
        check.due("the example's first row", rows[0], "ReportCompiler r = new ReportCompiler();");
        for (int n = 1; n < rows.length; n++) {
            Matcher call = CALL.matcher(rows[n]);
            boolean isCall = call.matches();
            check.due("\"" + rows[n] + "\" is a call with its answer", isCall, true);
            if (isCall) {
                check.due(rows[n], answer(call.group(1), call.group(2)), wanted(call.group(3)));
            }
        }
    }

    private String answer(String name, String arguments) throws ReflectiveOperationException {
        String[] words = arguments.isEmpty() ? new String[0] : arguments.split(", ");
        Object[] numbers = new Object[words.length];
        Class<?>[] types = new Class<?>[words.length];
        for (int n = 0; n < words.length; n++) {
            numbers[n] = Integer.valueOf(words[n]);
            types[n] = int.class;
        }
        called.add(name);
        return ReportCompiler.class.getMethod(name, types).invoke(r, numbers).toString();
    }

    private static String wanted(String told) {
        return told.equals("BAD") ? "-10000000" : told.equals("FULL") ? "-10000001" : told;
    }

    private void everyMethodIsTold(String readme) {
        for (Method method : ReportCompiler.class.getDeclaredMethods()) {
            if (Modifier.isPublic(method.getModifiers())) {
                String name = method.getName();
                check.due("the example calls " + name, called.contains(name), true);
                check.due("the table tells " + name, readme.contains("\n| `" + name + "("), true);
            }
        }
    }

    private void everyTestIsTold(String readme) {
        for (String file : new File("src/test/java").list()) {
            if (file.endsWith("Test.java")) {
                String name = file.replace(".java", "");
                check.due("the table tells " + name, readme.contains("\n| `" + name + "` |"), true);
            }
        }
        Matcher told = Pattern.compile("\n\\| `(\\w+Test)`").matcher(readme);
        while (told.find()) {
            check.due(told.group(1) + " is there", new File("src/test/java/" + told.group(1) + ".java").exists(), true);
        }
    }
}
