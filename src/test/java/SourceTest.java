import java.io.IOException;
import java.nio.charset.StandardCharsets;
import java.nio.file.Files;
import java.nio.file.Path;
import java.util.List;

/** What LANGUAGE.md rules out, as far as the text of the class shows it. */
public final class SourceTest {
    private static final Path SOURCE = Path.of("src/main/java/Blockduty.java");
    private static final List<String> IMPORTS = List.of("java.util.ArrayList", "java.util.List",
            "java.util.Arrays", "java.util.Iterator", "java.util.NoSuchElementException");
    /** Rules 2, 4, 5, 6, 11 and 13. */
    private static final String[] RULED_OUT = {
        "->", "::", "finally", "synchronized", "assert ", "static {", "Exact(", "getMessage",
        "System.out", "System.nano", "System.currentTime", "Random", "Thread", "hashCode",
        "catch (ArrayIndex", "catch (NullPointer", "catch (ClassCast", "catch (Throwable",
        "catch (Exception", "catch (RuntimeException", "extends Exception",
        "extends RuntimeException", "package ",
    };
    private static final int MOST_LINES = 60;

    public static void main(String[] args) throws IOException {
        List<String> lines = Files.readAllLines(SOURCE, StandardCharsets.US_ASCII);
        checkImports(lines);
        checkRuledOut(lines);
        checkMethodLengths(lines);
        Check.end();
    }

    private static void checkImports(List<String> lines) {
        for (String line : lines) {
            if (line.startsWith("import ")) {
                String name = line.substring("import ".length(), line.length() - 1);
                Check.isTrue("4: " + name, IMPORTS.contains(name));
            }
        }
    }

    private static void checkRuledOut(List<String> lines) {
        for (int i = 0; i < lines.size(); i++) {
            String line = lines.get(i);
            String text = line.trim();
            if (text.startsWith("//") || text.startsWith("/*") || text.startsWith("*")) {
                continue;
            }
            for (String word : RULED_OUT) {
                Check.isTrue("line " + (i + 1) + " has " + word, !line.contains(word));
            }
        }
    }

    /** From each line that opens a method, or a block in it, to the one below that closes it. */
    private static void checkMethodLengths(List<String> lines) {
        for (String indent : new String[] {"    ", "        "}) {
            int opened = -1;
            for (int i = 0; i < lines.size(); i++) {
                String line = lines.get(i);
                if (line.matches(indent + "[A-Za-z].*\\(.*") && !line.endsWith(";")) {
                    opened = i;
                } else if (opened >= 0 && line.equals(indent + "}")) {
                    Check.isTrue("11: what line " + (opened + 1) + " opens is short",
                            i - opened < MOST_LINES);
                    opened = -1;
                }
            }
        }
    }
}
