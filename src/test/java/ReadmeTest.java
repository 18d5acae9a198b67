import java.io.IOException;
import java.lang.reflect.Field;
import java.lang.reflect.Method;
import java.lang.reflect.Modifier;
import java.nio.file.Files;
import java.nio.file.Path;
import java.util.List;
import java.util.regex.Matcher;
import java.util.regex.Pattern;
import java.util.stream.Stream;

/** What README.md shows is what the class answers, and it leaves out no call, no fault and no test. */
public final class ReadmeTest {
    private static final Pattern TYPED = Pattern.compile("\"(\\w+)\"\\.toCharArray");
    private static final Pattern CALL = Pattern.compile("list\\.(\\w+)\\(([^)]*)\\); *// (?:'(.)'|(-?\\d+))");

    public static void main(String[] args) throws IOException, ReflectiveOperationException {
        String readme = Files.readString(Path.of("README.md"));
        checkExample(readme.substring(readme.indexOf("```java"), readme.indexOf("## How it works")));
        for (Method method : IsomerList.class.getDeclaredMethods()) {
            if (Modifier.isPublic(method.getModifiers())) {
                dueNamed(readme, "| `" + method.getName() + "(");
            }
        }
        for (Field constant : IsomerList.class.getFields()) {
            dueNamed(readme, "`" + constant.getName() + "`");
        }
        for (String test : tests()) {
            dueNamed(readme, "- `" + test + "`:");
        }
        Check.end();
    }

    private static void checkExample(String example) throws ReflectiveOperationException {
        Matcher typed = TYPED.matcher(example);
        IsomerList list = new IsomerList();
        Check.due("README types a formula", typed.find() ? 1 : 0, 1);
        Check.typeAll(list, typed.group(1));
        Matcher call = CALL.matcher(example);
        int calls = 0;
        while (call.find()) {
            int want = call.group(3) != null ? call.group(3).charAt(0) : Integer.parseInt(call.group(4));
            Check.due("README: " + call.group(), answer(list, call.group(1), call.group(2)), want);
            calls++;
        }
        Check.due("calls with an answer in README", calls, 6);
        Check.due("the line that README tells", Check.text(list, 5), "C(C)O");
    }

    private static int answer(IsomerList list, String name, String arguments) throws ReflectiveOperationException {
        Object[] values = Stream.of(arguments.split(", ")).filter(a -> !a.isEmpty()).map(Integer::valueOf).toArray();
        for (Method method : IsomerList.class.getMethods()) {
            if (method.getName().equals(name)) {
                Object answer = method.invoke(list, values);
                return answer instanceof Character c ? c : (Integer) answer;
            }
        }
        throw new NoSuchMethodException(name);
    }

    private static List<String> tests() throws IOException {
        try (Stream<Path> files = Files.list(Path.of("src/test/java"))) {
            return files.map(f -> f.getFileName().toString()).filter(f -> f.endsWith("Test.java"))
                    .map(f -> f.replace(".java", "")).toList();
        }
    }

    private static void dueNamed(String readme, String words) {
        Check.due("README names " + words, readme.contains(words) ? 1 : 0, 1);
    }
}
