import java.io.IOException;
import java.lang.reflect.Method;
import java.lang.reflect.Modifier;
import java.nio.file.Files;
import java.nio.file.Path;
import java.util.ArrayList;
import java.util.List;
import java.util.Map;
import java.util.Set;
import java.util.TreeMap;
import java.util.TreeSet;
import java.util.regex.Matcher;
import java.util.regex.Pattern;

/** What README.md says of the calls: the example's answers, a row for each call, the refusals of each. */
public final class ReadmeTest {
    private static final Path PAGE = Path.of("README.md");
    private static final Path DOCUMENT = Path.of("../shared/DOC.md");
    private static final Map<String, Integer> REFUSALS = Map.of("BAD", SecondTill.BAD, "NO", SecondTill.NO,
        "FULL", SecondTill.FULL, "NONE", SecondTill.NONE);
    private static final Pattern CALL = Pattern.compile("x\\.(\\w+)\\(([-\\d, ]*)\\);\\s*// (-?\\w+)(?:: .*)?");
    private static final Pattern TEXT = Pattern.compile("for \\(char letter : \"(.*)\"\\.toCharArray\\(\\)\\) \\{");
    private static final Pattern ROW = Pattern.compile("(?m)^\\| `(\\w+)\\((.*?)\\)` \\|.*\\|(.*)\\|$");
    private static final int LEAST_CALLS = 15;

    private static int wrong = 0;

    private static void must(boolean holds, String what) {
        if (!holds) {
            wrong++;
            System.out.println("not so: " + what);
        }
    }

    public static void main(String[] args) throws IOException {
        String page = Files.readString(PAGE);
        example(page);
        rows(page);
        must(page.contains("\n    .ci/run\n"), "the page says how to run the tests");
        System.out.println(wrong == 0 ? "the page is as the class is" : wrong + " things of the page are not so");
        if (wrong != 0) {
            System.exit(1);
        }
    }

    private static Map<String, Method> face() {
        Map<String, Method> face = new TreeMap<>();
        for (Method method : SecondTill.class.getDeclaredMethods()) {
            if (Modifier.isPublic(method.getModifiers())) {
                face.put(method.getName(), method);
            }
        }
        return face;
    }

    private static void example(String page) {
        int start = page.indexOf("```java\n");
        int end = page.indexOf("\n```\n", start);
        must(start >= 0 && end > start, "the page has an example");
        SecondTill x = new SecondTill();
        int calls = 0;
        for (String line : page.substring(start, end).split("\n")) {
            Matcher text = TEXT.matcher(line);
            if (text.matches()) {
                text.group(1).chars().forEach(x::write);
            }
            if (line.startsWith("x.")) {
                calls++;
                ask(x, line);
            }
        }
        must(calls >= LEAST_CALLS, "the example has its calls, not " + calls);
    }

    private static void ask(SecondTill x, String line) {
        Matcher call = CALL.matcher(line);
        Method method = call.matches() ? face().get(call.group(1)) : null;
        if (method == null) {
            must(false, "a call with its answer: " + line);
            return;
        }
        List<Object> numbers = new ArrayList<>();
        for (String number : call.group(2).isBlank() ? new String[0] : call.group(2).split(", ")) {
            numbers.add(Integer.valueOf(number));
        }
        Integer refusal = REFUSALS.get(call.group(3));
        int due = refusal == null ? Integer.parseInt(call.group(3)) : refusal;
        try {
            int got = (int) method.invoke(x, numbers.toArray());
            must(got == due, line + " (it answers " + got + ")");
        } catch (ReflectiveOperationException e) {
            must(false, line + " (" + e + ")");
        }
    }

    /** Each call has one row, with as many parameters and the refusals that the document names. */
    private static void rows(String page) throws IOException {
        Map<String, Method> left = face();
        String document = Files.isReadable(DOCUMENT) ? Files.readString(DOCUMENT) : "";
        Matcher row = ROW.matcher(page);
        while (row.find()) {
            String name = row.group(1);
            Method method = left.remove(name);
            must(method != null, name + " is a call that has one row");
            if (method == null) {
                continue;
            }
            int parameters = row.group(2).isEmpty() ? 0 : row.group(2).split(", ").length;
            must(parameters == method.getParameterCount(), name + " takes " + method.getParameterCount());
            Set<String> due = refusalsByDocument(document, name);
            must(document.isEmpty() || due.equals(words(row.group(3))), name + " is refused by " + due);
        }
        must(left.isEmpty(), "each call has a row: " + left.keySet());
    }

    private static Set<String> refusalsByDocument(String document, String name) {
        Matcher promise = Pattern.compile("(?m)^`int " + name + "\\(.*?\\)`:(.*)$").matcher(document);
        return promise.find() ? words(promise.group(1)) : Set.of();
    }

    private static Set<String> words(String text) {
        Set<String> found = new TreeSet<>();
        Matcher word = Pattern.compile("\\b(?:BAD|NO|FULL|NONE)\\b").matcher(text);
        while (word.find()) {
            found.add(word.group());
        }
        return found;
    }
}
