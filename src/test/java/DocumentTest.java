import java.io.IOException;
import java.lang.reflect.Method;
import java.nio.charset.StandardCharsets;
import java.nio.file.Files;
import java.nio.file.Path;
import java.util.LinkedHashMap;
import java.util.Map;

/**
 * The words that tests say they hold stand in ../shared/DOC.md, and no word of "Terms" and of the
 * promises stands there that no test holds.
 */
public final class DocumentTest {
    private static final Class<?>[] TESTS = {
        TermsTest.class, RefusalsTest.class, FaceTest.class, MarketTest.class, TowersTest.class,
        TradersTest.class, ForecastTest.class,
    };
    private static final Checks CHECKS = new Checks();

    public static void main(String[] args) throws IOException {
        Map<String, String> parts = parts(Path.of("..", "shared", "DOC.md"));
        Map<String, boolean[]> held = new LinkedHashMap<>();
        parts.forEach((at, text) -> held.put(at, new boolean[text.length()]));
        for (Class<?> tests : TESTS) {
            for (Method test : Checks.testsOf(tests)) {
                mark(tests.getSimpleName() + "." + test.getName(), test.getAnnotation(Holds.class), parts, held);
            }
        }
        CHECKS.isTrue("Terms stand in the document", parts.containsKey("Terms"));
        for (int promise = 1; promise <= 31; promise++) {
            CHECKS.isTrue("Promise " + promise + " stands in the document", parts.containsKey("Promise " + promise));
        }
        for (Map.Entry<String, String> part : parts.entrySet()) {
            if (part.getKey().equals("Terms") || part.getKey().startsWith("Promise ")) {
                String open = wordsWithoutTest(part.getValue(), held.get(part.getKey()));
                CHECKS.isTrue(part.getKey() + ": no test holds: " + open, open.isEmpty());
            }
        }
        CHECKS.end("DocumentTest");
    }

    private static void mark(String name, Holds holds, Map<String, String> parts, Map<String, boolean[]> held) {
        String text = parts.getOrDefault(holds.at(), "");
        int from = text.indexOf(holds.says());
        CHECKS.isTrue(name + ": not in " + holds.at() + ": " + holds.says(), from >= 0 && !holds.says().isEmpty());
        while (from >= 0) {
            for (int i = from; i < from + holds.says().length(); i++) {
                held.get(holds.at())[i] = true;
            }
            from = text.indexOf(holds.says(), from + 1);
        }
    }

    private static String wordsWithoutTest(String text, boolean[] held) {
        StringBuilder open = new StringBuilder();
        for (int i = 0; i < text.length(); i++) {
            boolean counts = !held[i] && Character.isLetterOrDigit(text.charAt(i));
            if (counts) {
                open.append(text.charAt(i));
            } else if (open.length() > 0 && open.charAt(open.length() - 1) != ' ') {
                open.append(' ');
            }
        }
        return open.toString().trim();
    }

    /** Each part's sentences, by its heading without the name of the call. */
    private static Map<String, String> parts(Path document) throws IOException {
        Map<String, String> parts = new LinkedHashMap<>();
        String at = "";
        for (String line : Files.readAllLines(document, StandardCharsets.UTF_8)) {
            if (line.startsWith("## ")) {
                at = line.substring(3).replaceAll(":.*", "");
            } else if (!at.isEmpty()) {
                String text = parts.getOrDefault(at, "") + " " + sentences(line);
                parts.put(at, text.replaceAll("\\s+", " ").trim());
            }
        }
        return parts;
    }

    /** Without a signature (FaceTest has it), a parameter's name, a list's number and marks of code. */
    private static String sentences(String line) {
        String text = line.replaceAll("^`[^`]*\\([^`]*`: ", "");
        if (text.startsWith("- `") || text.startsWith("```")) {
            return "";
        }
        return text.replaceAll("^ *[0-9]+\\. ", "").replace("`", "");
    }
}
