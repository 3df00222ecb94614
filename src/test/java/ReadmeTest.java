import java.io.IOException;
import java.lang.reflect.Field;
import java.lang.reflect.Method;
import java.lang.reflect.Modifier;
import java.nio.file.Files;
import java.nio.file.Path;
import java.util.ArrayList;
import java.util.List;
import java.util.regex.Matcher;
import java.util.regex.Pattern;
import java.util.stream.Stream;

/** What README.md says of the class is so: its example, its tables, the tests that it names. */
public final class ReadmeTest {
    private static final Pattern REFUSAL = Pattern.compile("\\b(UNKNOWN|BAD|LATE|FULL)\\b");

    private static final Due due = new Due();

    public static void main(String[] args) throws IOException, ReflectiveOperationException {
        String readme = Files.readString(Path.of("README.md"));
        String document = Files.readString(Path.of("../shared/DOC.md"));
        example(readme);
        for (Method method : ShadeTree.class.getDeclaredMethods()) {
            if (Modifier.isPublic(method.getModifiers())) {
                row(readme, document, method);
            }
        }
        numbers(readme);
        tests(readme);
        due.end();
    }

    // ---- the example

    private static void example(String readme) throws ReflectiveOperationException {
        ShadeTree x = new ShadeTree();
        Matcher text = Pattern.compile("\"(P\\d+)\"\\.toCharArray").matcher(readme);
        due.so("the example tells a picture", text.find());
        Pictures.tell(x, text.group(1));
        Matcher call = Pattern.compile("\\bx\\.(\\w+)\\(([^()]*)\\)+;\\s*// (-?\\d+):").matcher(readme);
        int calls = 0;
        while (call.find()) {
            calls++;
            due.is("README: x." + call.group(1) + "(" + call.group(2) + ")",
                    answer(x, call.group(1), call.group(2)), Long.parseLong(call.group(3)));
        }
        due.so("the example has calls with answers", calls > 0);
    }

    private static long answer(ShadeTree x, String name, String told)
            throws ReflectiveOperationException {
        String[] words = told.isEmpty() ? new String[0] : told.split(", ");
        Method method = named(name);
        Class<?>[] types = method.getParameterTypes();
        due.is("README: what " + name + " takes", words.length, types.length);
        Object[] values = new Object[words.length];
        for (int i = 0; i < words.length; i++) {
            values[i] = value(words[i], types[i]);
        }
        return ((Number) method.invoke(x, values)).longValue();
    }

    private static Method named(String name) {
        for (Method method : ShadeTree.class.getMethods()) {
            if (method.getName().equals(name)) {
                return method;
            }
        }
        throw new IllegalStateException("README calls " + name + ", which there is not");
    }

    private static Object value(String word, Class<?> type) {
        if (type == boolean.class) {
            return Boolean.valueOf(word);
        }
        if (type == long.class) {
            return Long.valueOf(word.replace("L", ""));
        }
        return Integer.valueOf(word);
    }

    // ---- the tables

    /** A call stands once in the table, with all it takes and its refusals in the document's order. */
    private static void row(String readme, String document, Method method) {
        Matcher row = Pattern.compile("(?m)^\\| `" + method.getName() + "\\(([^)]*)\\)` \\|.*\\|(.*)\\|$")
                .matcher(readme);
        if (!row.find()) {
            due.so("README has a row for " + method.getName(), false);
            return;
        }
        int takes = row.group(1).isEmpty() ? 0 : row.group(1).split(", ").length;
        due.is("README: what " + method.getName() + " takes", takes, method.getParameterCount());
        List<String> told = refusals(row.group(2));
        List<String> promised = refusals(promise(document, method.getName()));
        due.so("README: refusals of " + method.getName() + " are " + told + ", due is " + promised,
                told.equals(promised));
        due.so("README has one row for " + method.getName(), !row.find());
    }

    private static String promise(String document, String name) {
        Matcher promise = Pattern.compile("(?m)^`(int|long) " + name + "\\([^`]*`: (.*)$").matcher(document);
        return promise.find() ? promise.group(2) : "not promised";
    }

    private static List<String> refusals(String words) {
        List<String> all = new ArrayList<>();
        Matcher refusal = REFUSAL.matcher(words);
        while (refusal.find()) {
            all.add(refusal.group());
        }
        return all;
    }

    private static void numbers(String readme) throws ReflectiveOperationException {
        for (Field constant : ShadeTree.class.getFields()) {
            String name = constant.getName();
            int number = constant.getInt(null);
            String told = name.equals("NONE") ? "`NONE` (" + number + ")" : "| `" + name + "` | " + number + " |";
            due.so("README says " + told, readme.contains(told));
        }
    }

    private static void tests(String readme) throws IOException {
        try (Stream<Path> files = Files.list(Path.of("src/test/java"))) {
            files.map(file -> file.getFileName().toString())
                    .filter(name -> name.endsWith("Test.java"))
                    .forEach(name -> due.so("README names " + name,
                            readme.contains("`" + name.replace(".java", "") + "`")));
        }
    }
}
