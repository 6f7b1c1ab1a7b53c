import java.io.IOException;
import java.lang.reflect.Method;
import java.lang.reflect.Modifier;
import java.nio.charset.StandardCharsets;
import java.nio.file.Files;
import java.nio.file.Path;
import java.util.ArrayList;
import java.util.HashMap;
import java.util.List;
import java.util.Map;
import java.util.regex.Matcher;
import java.util.regex.Pattern;

/** README.md: its example, and that it names each call, what that throws, and each test. */
public final class ReadmeTest {
    private static final Path PAGE = Path.of("README.md");
    private static final Path TESTS = Path.of("src/test/java");
    private static final Pattern CALL_ROW =
            Pattern.compile("\\| `(\\w+)\\((.*?)\\)` \\| ([^|]+) \\|([^|]*)\\|");
    private static final Pattern REFUSAL = Pattern.compile("\\*\\*(\\w+)\\*\\*");

    public static void main(String[] args) throws IOException {
        List<String> page = Files.readAllLines(PAGE, StandardCharsets.US_ASCII);
        exampleAnswers();
        exampleIsAsHere(page);
        namesEachCall(page);
        namesEachTest(page);
        Check.end();
    }

    /** The lines of the page, without what it says beside them. */
    private static void exampleAnswers() {
        Blockduty county = new Blockduty();
        county.place(1, 20, 3, true);
        int out = county.trip(0, 0, 1, 480, 40);
        int back = county.trip(0, 1, 0, 540, 40);
        int built = county.build(400);
        int pieces = county.cut(0);
        int driver = county.driver();
        int minutes = county.give(0, 0, driver);
        county.delay(out, 30);
        int late = county.ofTrip(back, 9);
        int pays = county.many(5);
        int may = county.mayDelay(out);
        Check.is("out", 0, out);
        Check.is("built", 2, built);
        Check.is("one BLOCK", 1, county.many(1));
        Check.is("CAPACITY", 400, county.ofBlock(0, 0));
        Check.is("pieces", 1, pieces);
        Check.is("driver", 0, driver);
        Check.is("minutes", 100, minutes);
        Check.is("late", 10, late);
        Check.is("pays", 15, pays);
        Check.is("may", 50, may);
        county.delay(out, 51);
        Check.is("with 51", 6, county.ofTrip(back, 8));
    }

    private static void exampleIsAsHere(List<String> page) throws IOException {
        List<String> here = new ArrayList<>();
        for (String line : Files.readAllLines(TESTS.resolve("ReadmeTest.java"))) {
            here.add(line.trim());
        }
        int begin = page.indexOf("```java");
        int end = begin < 0 ? begin : begin + page.subList(begin, page.size()).indexOf("```");
        Check.isTrue("the page has an example", begin >= 0 && end > begin + 1);
        for (int i = begin + 1; i < end; i++) {
            String call = page.get(i).replaceAll("//.*", "").trim();
            Check.isTrue("answered here too: " + call, here.contains(call));
        }
    }

    private static void namesEachCall(List<String> page) {
        Map<String, Matcher> rows = new HashMap<>();
        for (String line : page) {
            Matcher row = CALL_ROW.matcher(line);
            if (row.matches()) {
                Check.isTrue("one row alone: " + row.group(1), !rows.containsKey(row.group(1)));
                rows.put(row.group(1), row);
            }
        }
        int calls = 0;
        for (Method method : Blockduty.class.getDeclaredMethods()) {
            if (Modifier.isPublic(method.getModifiers())) {
                calls++;
                namesCall(method, rows.get(method.getName()));
            }
        }
        Check.is("no other rows", calls, rows.size());
    }

    private static void namesCall(Method method, Matcher row) {
        Check.isTrue("a row for " + method.getName(), row != null);
        if (row == null) {
            return;
        }
        String named = row.group(2);
        Check.is("parameters of " + method.getName(), method.getParameterCount(),
                named.isEmpty() ? 0 : named.split(", ").length);
        List<String> refusals = new ArrayList<>();
        Matcher refusal = REFUSAL.matcher(row.group(4));
        while (refusal.find()) {
            refusals.add(refusal.group(1));
        }
        List<String> thrown = new ArrayList<>();
        for (Class<?> type : method.getExceptionTypes()) {
            thrown.add(wordFor(type));
        }
        Check.isTrue("refusals of " + method.getName() + " are " + thrown,
                refusals.equals(thrown));
    }

    private static String wordFor(Class<?> thrown) {
        return thrown == IndexOutOfBoundsException.class ? "index"
                : thrown == IllegalArgumentException.class ? "argument"
                : thrown == IllegalStateException.class ? "state" : "?";
    }

    private static void namesEachTest(List<String> page) {
        String[] files = TESTS.toFile().list();
        Check.isTrue("there are tests in " + TESTS, files != null);
        for (String file : files == null ? new String[0] : files) {
            if (file.endsWith("Test.java")) {
                String row = "| `" + file.substring(0, file.length() - ".java".length()) + "` |";
                Check.isTrue("a row for " + file,
                        page.stream().anyMatch(line -> line.startsWith(row)));
            }
        }
        Check.isTrue("how to run them", page.contains("    .ci/run"));
    }
}
