import java.io.IOException;
import java.lang.reflect.Constructor;
import java.lang.reflect.Executable;
import java.lang.reflect.Field;
import java.lang.reflect.Method;
import java.lang.reflect.Modifier;
import java.nio.file.Files;
import java.nio.file.Path;
import java.util.ArrayList;
import java.util.Arrays;
import java.util.List;
import java.util.Set;
import java.util.TreeSet;
import java.util.regex.Matcher;
import java.util.regex.Pattern;

/**
 * The public face that the document tells, what of ../shared/LANGUAGE.md can be counted, and the
 * example of README.md. The source is found by -Dsource=.., else from the project's directory.
 */
public final class FaceTests {
    private static final int MOST_PARAMETERS = 7;
    private static final int MOST_FIELDS = 20;
    private static final int MOST_CLASSES = 12;
    private static final int MOST_LINES = 60;

    private static int wrong = 0;

    public static void main(String[] args) throws IOException, IllegalAccessException {
        constants();
        members();
        classes();
        source(Files.readString(Path.of(System.getProperty("source", "src/main/java/InferResolve.java"))));
        readmeExample();
        System.out.println(wrong == 0 ? "the face is as told" : wrong + " things are not as told");
        if (wrong != 0) {
            System.exit(1);
        }
    }

    private static void due(String what, Object got, Object want) {
        if (!got.equals(want)) {
            wrong++;
            System.out.println(what + " is " + got + ", due is " + want);
        }
    }

    private static void constants() throws IllegalAccessException {
        Set<String> found = new TreeSet<>();
        for (Field field : InferResolve.class.getDeclaredFields()) {
            int is = field.getModifiers();
            if (Modifier.isPublic(is)) {
                due(field.getName() + " is static and final", Modifier.isStatic(is) && Modifier.isFinal(is), true);
                due(field.getName() + "'s type", field.getType(), int.class);
                found.add(field.getName() + "=" + field.getInt(null));
            } else {
                due(field.getName() + " is private", Modifier.isPrivate(is), true);
            }
        }
        due("constants", found, new TreeSet<>(List.of("NONE=-1", "BAD=-2", "FULL=-3", "STATE=-4",
                "OPEN=0", "FALSE=1", "CUT=2", "FAILED=3")));
    }

    private static void members() {
        Set<String> shown = new TreeSet<>();
        Set<String> names = new TreeSet<>();
        List<String> hidden = new ArrayList<>();
        for (Method method : InferResolve.class.getDeclaredMethods()) {
            if (method.isSynthetic()) {
                continue;
            }
            if (Modifier.isPrivate(method.getModifiers())) {
                hidden.add(method.getName());
                continue;
            }
            due(method.getName() + " is public and of the object", method.getModifiers(), Modifier.PUBLIC);
            due(method.getName() + "'s answer", method.getReturnType(), int.class);
            names.add(method.getName());
            shown.add(method.getName() + Arrays.toString(method.getParameterTypes())
                    + Arrays.toString(method.getExceptionTypes()));
        }
        due("methods", shown, new TreeSet<>(List.of("feed[long, int][]", "kinds[][]", "fault[][]",
                "variable[boolean][]", "fresh[][]", "bound[][]", "close[][]", "told[int][]", "written[int][]",
                "letter[int][class java.lang.IndexOutOfBoundsException]", "next[][]", "step[][]",
                "solution[int][]", "join[][]", "below[][]")));
        for (String name : hidden) {
            due("a private method bears the public name " + name, names.contains(name), false);
        }
        Constructor<?>[] made = InferResolve.class.getDeclaredConstructors();
        due("constructors", made.length, 1);
        due("the constructor's parameters", made[0].getParameterCount(), 0);
        due("the constructor is public", made[0].getModifiers(), Modifier.PUBLIC);
    }

    private static void classes() {
        due("the class is public and final", InferResolve.class.getModifiers(), Modifier.PUBLIC | Modifier.FINAL);
        Class<?>[] inside = InferResolve.class.getDeclaredClasses();
        due("at most " + MOST_CLASSES + " classes", inside.length + 1 <= MOST_CLASSES, true);
        bulk(InferResolve.class);
        for (Class<?> one : inside) {
            due(one.getName() + " is static", Modifier.isStatic(one.getModifiers()), true);
            bulk(one);
        }
    }

    private static void bulk(Class<?> one) {
        int fields = 0;
        for (Field field : one.getDeclaredFields()) {
            boolean isStatic = Modifier.isStatic(field.getModifiers());
            fields += isStatic ? 0 : 1;
            due(one + "." + field.getName() + " changes for all objects",
                    isStatic && !Modifier.isFinal(field.getModifiers()), false);
        }
        due(one + " has few fields", fields <= MOST_FIELDS, true);
        List<Executable> all = new ArrayList<>(List.of(one.getDeclaredMethods()));
        all.addAll(List.of(one.getDeclaredConstructors()));
        for (Executable code : all) {
            due(one + "." + code.getName() + " takes few", code.getParameterCount() <= MOST_PARAMETERS, true);
        }
    }

    private static void source(String text) {
        String code = text.replaceAll("(?s)/\\*.*?\\*/", "").replaceAll("//[^\n]*", "");
        due("imports", all(code, "(?m)^import [^;]*;"), new TreeSet<>(List.of("import java.util.Arrays;")));
        due("throws", all(code, "throw\\b[^;(]*"), new TreeSet<>(List.of("throw new IndexOutOfBoundsException")));
        due("words outside the language", all(code, "->|::|\\b(try|catch|finally|synchronized|assert|package"
                + "|native|volatile|transient|var|goto|instanceof|double|float|Object\\.|Thread|Random)\\b"), Set.of());
        due("calls of the library", all(code, "\\b(System|Math|Integer|Long|Arrays|String|Character)\\.\\w+"),
                new TreeSet<>(List.of("System.arraycopy", "Math.min", "Integer.bitCount",
                        "Integer.numberOfTrailingZeros", "Arrays.copyOf", "Arrays.fill")));
        methodsAreShort(text.split("\n"));
    }

    private static Set<String> all(String code, String pattern) {
        Set<String> found = new TreeSet<>();
        Matcher matcher = Pattern.compile(pattern).matcher(code);
        while (matcher.find()) {
            found.add(matcher.group().trim());
        }
        return found;
    }

    /** A method's last line is the brace that stands as deep as its first line. */
    private static void methodsAreShort(String[] lines) {
        Pattern head = Pattern.compile("^( {4}| {8})[A-Za-z].*\\) (throws \\w+ )?\\{$");
        for (int i = 0; i < lines.length; i++) {
            Matcher matcher = head.matcher(lines[i]);
            if (!matcher.matches() || lines[i].matches(" *(if|for|while|switch|do)\\b.*")) {
                continue;
            }
            int end = i + 1;
            while (end < lines.length && !lines[end].equals(matcher.group(1) + "}")) {
                end++;
            }
            due("line " + (i + 1) + " begins a short method", end - i < MOST_LINES, true);
        }
    }

    private static void readmeExample() {
        Talk x = new Talk();
        due("kinds()", x.kinds("Num;Int:Num;Dbl:Num;"), 7);
        due("variable(false)", x.variable(false), 0);
        due("bound() of Int:$0", x.bound("Int:$0"), 1);
        due("bound() of Dbl:$0", x.bound("Dbl:$0"), 2);
        due("close()", x.close(), 0);
        due("step()", x.step(), 1);
        due("solution(0)", x.solution(0), 3);
        due("letter(0)", x.letter(0), (int) 'N');
        due("kinds() of A:B;", x.kinds("A:B;"), -12);
        due("fault()", x.fault(), 4);
    }
}
