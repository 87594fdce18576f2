import java.io.IOException;
import java.lang.reflect.Constructor;
import java.lang.reflect.Field;
import java.lang.reflect.Method;
import java.lang.reflect.Modifier;
import java.nio.file.Files;
import java.nio.file.Path;
import java.util.Arrays;
import java.util.TreeSet;
import java.util.regex.Matcher;
import java.util.regex.Pattern;

/** The face, by reflection, and those rules of LANGUAGE.md that can be read off the source. */
public final class RulesTest {
    private static final Check check = new Check();

    private static final String[] FACE = {
        "int state(int, int)", "int put(int, int, int)", "int gone(int)", "int link(int, int, int, boolean)",
        "int read(boolean)", "int undo()", "int look(int, int)", "int part(int, int, int)",
        "long roads(int, int) throws java.lang.IllegalArgumentException", "int meet(int, int)",
        "int between(int, int)", "int together(int, int, int)", "int of(int, int, int)",
        "int two(int, int, int, int)", "int term(int, int, int)", "int told(int, int)",
        "int span(int, int, int, int, boolean)", "int lines(int)", "int rows(int, boolean)",
        "int row(int, int, boolean)", "int apart(int, int)", "int keepTerm(int)", "int fresh(int, int)",
        "int news(int, int)", "int forget()", "int count(int)", "int keep(int, int, int)",
        "int make(int, int, int)",
        "long element(int, int) throws java.lang.IllegalArgumentException java.lang.IllegalStateException",
        "int copy(int, int, int, int, int)", "int weight(int)", "int toss(int)"
    };

    private static String told(Method method) {
        StringBuilder text = new StringBuilder();
        text.append(method.getReturnType().getName()).append(' ').append(method.getName()).append('(');
        String between = "";
        for (Class<?> type : method.getParameterTypes()) {
            text.append(between).append(type.getName());
            between = ", ";
        }
        text.append(')');
        between = " throws ";
        for (Class<?> type : method.getExceptionTypes()) {
            text.append(between).append(type.getName());
            between = " ";
        }
        return text.toString();
    }

    private static void face() {
        check.at("the face");
        TreeSet<String> open = new TreeSet<>();
        for (Method method : PastWeb.class.getDeclaredMethods()) {
            if (!Modifier.isPrivate(method.getModifiers())) {
                open.add(told(method));
                check.due(method + " is public and not static",
                        method.getModifiers() & (Modifier.PUBLIC | Modifier.STATIC), Modifier.PUBLIC);
            }
        }
        check.due("methods", open.toString(), new TreeSet<>(Arrays.asList(FACE)).toString());
        for (Constructor<?> made : PastWeb.class.getDeclaredConstructors()) {
            check.due("constructor", made.toString(), "public PastWeb()");
        }
        for (Field field : PastWeb.class.getDeclaredFields()) {
            check.due(field + " is private", field.getModifiers() & Modifier.PRIVATE, Modifier.PRIVATE);
        }
        check.due("class", Modifier.toString(PastWeb.class.getModifiers()), "public final");
    }

    private static void classes() {
        check.at("the classes inside");
        TreeSet<String> names = new TreeSet<>();
        for (Method method : PastWeb.class.getDeclaredMethods()) {
            if (!Modifier.isPrivate(method.getModifiers())) {
                names.add(method.getName());
            }
        }
        Class<?>[] inside = PastWeb.class.getDeclaredClasses();
        check.due("some twelve classes", inside.length <= 12 ? 1 : 0, 1);
        for (Class<?> one : inside) {
            check.due(one + " is static", one.getModifiers() & Modifier.STATIC, Modifier.STATIC);
            check.due(one + " is not public", one.getModifiers() & (Modifier.PUBLIC | Modifier.PROTECTED), 0);
            int fields = 0;
            for (Field field : one.getDeclaredFields()) {
                fields += Modifier.isStatic(field.getModifiers()) ? 0 : 1;
                check.due(field + " is no static state", Modifier.isStatic(field.getModifiers()) ? 1 : 0, 0);
            }
            check.due(one + " has some twenty fields", fields <= 20 ? 1 : 0, 1);
            for (Method method : one.getDeclaredMethods()) {
                check.due(method + " bears a name of the face", names.contains(method.getName()) ? 1 : 0, 0);
                check.due(method + " takes seven at most", method.getParameterCount() <= 7 ? 1 : 0, 1);
            }
        }
        for (Method method : PastWeb.class.getDeclaredMethods()) {
            if (Modifier.isPrivate(method.getModifiers())) {
                check.due(method + " bears a name of the face", names.contains(method.getName()) ? 1 : 0, 0);
            }
        }
    }

    private static int times(String pattern, String text) {
        Matcher found = Pattern.compile(pattern).matcher(text);
        int times = 0;
        while (found.find()) {
            times++;
        }
        return times;
    }

    private static void source() throws IOException {
        check.at("the source");
        String whole = Files.readString(Path.of("src/main/java/PastWeb.java"));
        String code = whole.replaceAll("(?s)/\\*.*?\\*/", "").replaceAll("//[^\n]*", "");
        String[] never = {
            "->", "::", "\\bpackage\\b", "\\bfinally\\b", "\\bsynchronized\\b", "\\bassert\\b", "Exact\\(", "\\bdouble\\b",
            "\\bfloat\\b", "\\bNaN\\b", "getMessage", "\\bThrowable\\b", "catch \\((Exception|RuntimeException|Error)\\b",
            "NullPointerException", "ArrayIndexOutOfBounds", "ClassCastException", "NegativeArraySize", "ArrayStoreException",
            "ArithmeticException", "\\bequals\\b", "\\bhashCode\\b", "\\btoString\\b", "System\\.(?!arraycopy)",
            "static \\{", "\\bvar\\b", "Math\\.random", "import (?!java\\.util\\.Arrays;)", "\\[\\]\\[\\]\\["
        };
        for (String pattern : never) {
            check.due("times that " + pattern + " stands there", times(pattern, code), 0);
        }
        check.due("signs are 1 to 127", whole.chars().filter(c -> c > 126 || c < 32 && c != '\n').count(), 0);
        check.due("methods have some sixty lines at most", longestMethod(whole.split("\n")) <= 60 ? 1 : 0, 1);
    }

    /** From a line that opens a method to the brace that stands as far in. */
    private static int longestMethod(String[] lines) {
        int longest = 0;
        for (int start = 0; start < lines.length; start++) {
            Matcher opens = Pattern.compile("^( {4}| {8})[a-zA-Z].*\\(.*\\{$").matcher(lines[start]);
            if (opens.find()) {
                int end = start;
                while (!lines[end].equals(opens.group(1) + "}")) {
                    end++;
                }
                longest = Math.max(longest, end - start + 1);
            }
        }
        return longest;
    }

    public static void main(String[] args) throws IOException {
        face();
        classes();
        source();
        check.end("RulesTest");
    }
}
