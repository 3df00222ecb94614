import java.io.IOException;
import java.lang.reflect.Constructor;
import java.lang.reflect.Field;
import java.lang.reflect.Method;
import java.lang.reflect.Modifier;
import java.nio.file.Files;
import java.nio.file.Path;
import java.util.Arrays;
import java.util.List;
import java.util.Set;
import java.util.TreeSet;
import java.util.regex.Matcher;
import java.util.regex.Pattern;

/** The face of the class, and those rules of LANGUAGE.md that can be seen from outside. */
public final class LanguageTest {
    private static final List<String> FACE = List.of(
            "int write(int)", "int wipe()", "int fault()", "int picture()", "int about(int)",
            "int shade(int)", "int node(int, int)", "long dots(int)", "int parts(int)",
            "int paint(int, int)", "int negative()", "int sift(int, int)", "int undo()",
            "int pass(int, int)", "int grows(int, int, boolean)", "int steady(int, int)",
            "int judge(int, long)", "int share(int, int, boolean)", "int see(int, int, int)",
            "int unsee()", "int ways(int)", "int fades(int, int, int, int, boolean)",
            "long seed(long)", "int drawn(int)", "int keep(int)", "int again(int)");

    private static final Due due = new Due();

    public static void main(String[] args) throws IOException {
        face();
        constants();
        hidden();
        for (Class<?> inner : ShadeTree.class.getDeclaredClasses()) {
            due.so(inner + " is static", Modifier.isStatic(inner.getModifiers()));
            staticFields(inner);
            ownNames(inner);
        }
        ownNames(ShadeTree.class);
        staticFields(ShadeTree.class);
        due.so("at most twelve classes", ShadeTree.class.getDeclaredClasses().length < 12);
        String source = Files.readString(Path.of("src/main/java/ShadeTree.java"));
        words(source);
        library(source);
        made(source);
        shortMethods(source);
        due.end();
    }

    private static void face() {
        due.so("final", Modifier.isFinal(ShadeTree.class.getModifiers()));
        due.is("constructors", ShadeTree.class.getConstructors().length, 1);
        due.is("what it takes", ShadeTree.class.getConstructors()[0].getParameterCount(), 0);
        Set<String> found = new TreeSet<>();
        for (Method method : ShadeTree.class.getDeclaredMethods()) {
            if (Modifier.isPublic(method.getModifiers())) {
                String types = Arrays.toString(method.getParameterTypes());
                found.add(method.getReturnType() + " " + method.getName()
                        + "(" + types.substring(1, types.length() - 1) + ")");
            }
        }
        due.so("the face is " + found, found.equals(new TreeSet<>(FACE)));
    }

    private static void constants() {
        due.is("UNKNOWN", ShadeTree.UNKNOWN, -1);
        due.is("BAD", ShadeTree.BAD, -2);
        due.is("LATE", ShadeTree.LATE, -3);
        due.is("FULL", ShadeTree.FULL, -4);
        due.is("NONE", ShadeTree.NONE, -9);
        due.is("public fields", ShadeTree.class.getFields().length, 5);
    }

    private static void hidden() {
        for (Method method : ShadeTree.class.getDeclaredMethods()) {
            boolean isPrivate = Modifier.isPrivate(method.getModifiers());
            due.so(method + " is public or private",
                    isPrivate || Modifier.isPublic(method.getModifiers()));
        }
        for (Field field : ShadeTree.class.getDeclaredFields()) {
            int is = field.getModifiers();
            due.so(field + " is public or private", Modifier.isPrivate(is) || Modifier.isPublic(is));
        }
        for (Constructor<?> made : ShadeTree.class.getDeclaredConstructors()) {
            due.so(made + " is public", Modifier.isPublic(made.getModifiers()));
        }
    }

    private static void ownNames(Class<?> owner) {
        for (Method method : owner.getDeclaredMethods()) {
            boolean namedAsFace = FACE.stream().anyMatch(f -> f.contains(" " + method.getName() + "("));
            due.so(method + " has a name of its own",
                    !Modifier.isPrivate(method.getModifiers()) || !namedAsFace);
            due.so(method + " takes at most seven", method.getParameterCount() <= 7);
        }
    }

    private static void staticFields(Class<?> owner) {
        int own = 0;
        for (Field field : owner.getDeclaredFields()) {
            if (Modifier.isStatic(field.getModifiers())) {
                due.so(field + " is final", Modifier.isFinal(field.getModifiers()));
            } else {
                own++;
            }
        }
        due.so(owner + " has some twenty fields at most", own <= 20);
    }

    private static void words(String source) {
        String code = withoutComments(source);
        for (String word : List.of("throw", "throws", "try", "catch", "synchronized", "assert",
                "import", "package", "Object", "Random", "Thread", "protected")) {
            due.so("no " + word, !Pattern.compile("\\b" + word + "\\b").matcher(code).find());
        }
        due.so("no lambda", !code.contains("->"));
        due.so("no method reference", !code.contains("::"));
        due.so("no static block", !Pattern.compile("static\\s*\\{").matcher(code).find());
        due.so("no endless loop", !code.contains("while (true)") && !code.contains("for (;;)"));
    }

    private static void library(String source) {
        Set<String> allowed = Set.of("Long.bitCount", "Integer.bitCount", "Math.max", "Math.abs",
                "System.arraycopy");
        Matcher use = Pattern.compile("\\b(Long|Integer|Math|System|Arrays|String)\\.\\w+")
                .matcher(withoutComments(source));
        while (use.find()) {
            due.so("library: " + use.group(), allowed.contains(use.group()));
        }
    }

    /** Calls make nothing, so the room is filled by constructors alone. */
    private static void made(String source) {
        Pattern field = Pattern.compile("private final \\S+ \\w+ = new .*;");
        Pattern constructed = Pattern.compile("\\w+ = new (Text|Grid|Shades|Tree|Doings|Slots|Sights)\\(.*\\);");
        for (String line : withoutComments(source).split("\n")) {
            String bare = line.strip();
            if (Pattern.compile("\\bnew\\b").matcher(bare).find()) {
                due.so("made outside a constructor: " + bare,
                        field.matcher(bare).matches() || constructed.matcher(bare).matches());
            }
        }
    }

    private static void shortMethods(String source) {
        int since = 0;
        int number = 0;
        for (String line : source.split("\n")) {
            number++;
            if (line.matches(" {4,8}\\S.*\\) \\{")) {
                since = number;
            }
            if (line.matches(" {4,8}\\}")) {
                due.so("a method of at most sixty lines ends in line " + number,
                        since == 0 || number - since < 60);
                since = 0;
            }
        }
    }

    private static String withoutComments(String source) {
        return source.replaceAll("(?s)/\\*.*?\\*/", "").replaceAll("//[^\n]*", "");
    }
}
