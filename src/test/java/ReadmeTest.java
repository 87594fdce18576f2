import java.io.IOException;
import java.lang.reflect.InvocationTargetException;
import java.lang.reflect.Method;
import java.nio.file.Files;
import java.nio.file.Path;
import java.util.ArrayList;
import java.util.Collections;
import java.util.HashMap;
import java.util.List;
import java.util.Map;
import java.util.TreeMap;
import java.util.TreeSet;
import java.util.regex.Matcher;
import java.util.regex.Pattern;
import java.util.stream.Stream;

/** What README.md shows is so: its examples are called, its tables are held beside the document. */
public final class ReadmeTest {
    private static final Check check = new Check();
    private static final Path TESTS = Path.of("src/test/java");
    private static final Path DOCUMENT = Path.of("../shared/DOC.md");

    private static final Pattern NEW = Pattern.compile("PastWeb web = new PastWeb\\(\\);");
    private static final Pattern EXAMPLE =
            Pattern.compile("(?:(?:int )?(\\w+) = )?web\\.(\\w+)\\((.*)\\);\\s+// (-?\\d+|throws \\w+)(?:: .*)?");
    private static final Pattern CALL_ROW = Pattern.compile("\\| `(\\w+)\\((.*)\\)` \\| .* \\|(.*)\\|");
    private static final Pattern REFUSAL_ROW = Pattern.compile("\\| (-\\d+) \\| .* \\|");
    private static final Pattern BELOW_ZERO_OR_THROWN = Pattern.compile("-\\d+|Illegal\\w+Exception");
    private static final Pattern TEST_NAME = Pattern.compile("\\b[A-Z]\\w*Test\\b");

    private final List<String> lines;
    private final TreeSet<String> shown = new TreeSet<>();
    private final TreeMap<String, Integer> refusals = new TreeMap<>();

    private ReadmeTest(List<String> lines) {
        this.lines = lines;
    }

    // ---- examples

    private void examples() {
        PastWeb web = null;
        Map<String, String> numbers = new HashMap<>();
        boolean isExample = false;
        for (int i = 0; i < lines.size(); i++) {
            String line = lines.get(i);
            check.at("README.md, line " + (i + 1));
            if (line.startsWith("```")) {
                isExample = line.equals("```java");
                web = null;
                numbers.clear();
            } else if (isExample && NEW.matcher(line).matches()) {
                web = new PastWeb();
            } else if (isExample) {
                example(web, numbers, line);
            }
        }
        check.at("README.md");
        check.due("both exceptions are shown", shown.contains("throws IllegalArgumentException")
                && shown.contains("throws IllegalStateException") ? 1 : 0, 1);
        for (String refusal : refusals.keySet()) {
            check.due(refusal + " is shown", shown.contains(refusal) ? 1 : 0, 1);
        }
    }

    private void example(PastWeb web, Map<String, String> numbers, String line) {
        Matcher found = EXAMPLE.matcher(line);
        boolean isCall = web != null && found.matches();
        check.due("it is a call of an object, with its answer", isCall ? 1 : 0, 1);
        if (isCall) {
            String answer = answer(web, numbers, found.group(2), found.group(3));
            check.due(line, answer, found.group(4));
            shown.add(answer);
            if (found.group(1) != null) {
                numbers.put(found.group(1), answer);
            }
        }
    }

    private static String answer(PastWeb web, Map<String, String> numbers, String name, String told) {
        Method method = methodOf(name);
        String[] texts = told.isEmpty() ? new String[0] : told.split(", ");
        if (method == null || method.getParameterCount() != texts.length) {
            return "no such call";
        }
        Object[] arguments = new Object[texts.length];
        for (int i = 0; i < texts.length; i++) {
            String text = numbers.getOrDefault(texts[i], texts[i]);
            arguments[i] = text.equals("true") || text.equals("false") ? (Object) Boolean.valueOf(text) : Integer.valueOf(text);
        }
        try {
            return String.valueOf(method.invoke(web, arguments));
        } catch (InvocationTargetException e) {
            return "throws " + e.getCause().getClass().getSimpleName();
        } catch (IllegalAccessException e) {
            return "no call of the face";
        }
    }

    private static Method methodOf(String name) {
        for (Method method : PastWeb.class.getDeclaredMethods()) {
            if (method.getName().equals(name)) {
                return method;
            }
        }
        return null;
    }

    // ---- tables

    /** Each call once, and beside it what the document has for it. */
    private void tables() throws IOException {
        String document = Files.isReadable(DOCUMENT) ? Files.readString(DOCUMENT) : "";
        TreeSet<String> told = new TreeSet<>();
        List<String> calls = new ArrayList<>();
        for (String line : lines) {
            Matcher call = CALL_ROW.matcher(line);
            Matcher refusal = REFUSAL_ROW.matcher(line);
            if (call.matches() && !isTermRow(call)) {
                calls.add(call.group(1));
                callRow(call, document);
                told.addAll(codes(call.group(3)));
            } else if (refusal.matches()) {
                refusals.merge(refusal.group(1), 1, Integer::sum);
            }
        }
        check.at("README.md");
        check.due("the calls, each once", sorted(calls), sorted(face()));
        told.removeIf(code -> !code.startsWith("-"));
        check.due("refusals of the calls have a row each", refusals.keySet().toString(), told.toString());
        for (String refusal : refusals.keySet()) {
            check.due(refusal + " is told once", refusals.get(refusal), 1);
        }
    }

    /** The table of terms begins with names, that of calls with calls. */
    private static boolean isTermRow(Matcher row) {
        return row.group().matches("\\| [A-Z]+ .*");
    }

    private static void callRow(Matcher row, String document) {
        check.at("README.md, " + row.group(1));
        if (document.isEmpty()) {
            return;
        }
        Matcher said = Pattern.compile("`\\w+ " + row.group(1) + "\\((.*?)\\)[^`]*`: (.*)").matcher(document);
        boolean isFound = said.find();
        check.due("the document has it", isFound ? 1 : 0, 1);
        if (isFound) {
            check.due("what it is called with", row.group(2), said.group(1).replaceAll("(int|boolean) ", ""));
            check.due("answers below 0, or throws", codes(row.group(3)).toString(), codes(said.group(2)).toString());
        }
    }

    private static TreeSet<String> codes(String text) {
        TreeSet<String> codes = new TreeSet<>();
        Matcher found = BELOW_ZERO_OR_THROWN.matcher(text);
        while (found.find()) {
            codes.add(found.group());
        }
        return codes;
    }

    private static List<String> face() {
        List<String> names = new ArrayList<>();
        for (Method method : PastWeb.class.getMethods()) {
            if (method.getDeclaringClass() == PastWeb.class) {
                names.add(method.getName());
            }
        }
        return names;
    }

    private static String sorted(List<String> names) {
        Collections.sort(names);
        return names.toString();
    }

    // ---- tests

    /** It names all tests that are there, and no others. */
    private void tests() throws IOException {
        TreeSet<String> named = new TreeSet<>();
        for (String line : lines) {
            Matcher found = TEST_NAME.matcher(line);
            while (found.find()) {
                named.add(found.group());
            }
        }
        TreeSet<String> there = new TreeSet<>();
        try (Stream<Path> files = Files.list(TESTS)) {
            files.map(file -> file.getFileName().toString()).filter(name -> name.endsWith("Test.java"))
                    .forEach(name -> there.add(name.substring(0, name.length() - 5)));
        }
        check.at("README.md");
        check.due("tests", named.toString(), there.toString());
        check.due(".ci/run can be run", Files.isExecutable(Path.of(".ci/run")) ? 1 : 0, 1);
    }

    public static void main(String[] args) throws IOException {
        ReadmeTest test = new ReadmeTest(Files.readAllLines(Path.of("README.md")));
        test.tables();
        test.examples();
        test.tests();
        check.end("ReadmeTest");
    }
}
