import java.io.IOException;
import java.lang.reflect.Method;
import java.nio.file.Files;
import java.nio.file.Path;
import java.util.Arrays;
import java.util.LinkedHashMap;
import java.util.Map;

/**
 * The tests of single sentences tell these in the document's words. Here it is held that the document has those words
 * where a test says so, and that no word of its terms and promises is without a test.
 */
public final class DocumentTest {
    private static final Class<?>[] TESTS = {BoundsOfTerms.class, BoundsOfRows.class, BoundsOfDeeds.class,
        BoundsOfSayings.class, BoundsOfChances.class};
    private static final int PROMISES = 43;

    private static int wrong = 0;

    private static void say(String what) {
        wrong++;
        System.out.println("document: " + what);
    }

    /** What stands under each heading, without what is no sentence: fences, a call's own line, titles of groups. */
    private static Map<String, String> sections(String document) {
        Map<String, String> all = new LinkedHashMap<>();
        for (String section : document.split("(?m)^## ")) {
            int end = section.indexOf('\n');
            if (end < 0) {
                continue;
            }
            String heading = section.substring(0, end).replaceAll("^Promise (\\d+):.*", "$1").trim();
            String body = section.substring(end)
                    .replaceAll("(?m)^```.*$", "")
                    .replaceAll("(?m)^Ahead of the calls .* the interface says: ---- [^()]*$", "")
                    .replaceAll("(?m)^Ahead of the calls .* the interface says: ", "")
                    .replaceAll("(?m)^`[^`]*`: ", "")
                    .replaceAll("======== (2 )?", "");
            all.put(heading, body.replaceAll("\\s+", " ").trim());
        }
        return all;
    }

    private static void mark(Map<String, String> sections, Map<String, boolean[]> tested, Method test) {
        Bound bound = test.getAnnotation(Bound.class);
        String text = sections.get(bound.at());
        int at = text == null ? -1 : text.indexOf(bound.says());
        if (at < 0) {
            say(test.getName() + ": under '" + bound.at() + "' there is no '" + bound.says() + "'");
        }
        while (at >= 0) {
            boolean[] marks = tested.computeIfAbsent(bound.at(), k -> new boolean[text.length()]);
            Arrays.fill(marks, at, at + bound.says().length(), true);
            at = text.indexOf(bound.says(), at + 1);
        }
    }

    private static void tellUntested(String heading, String text, boolean[] marks) {
        StringBuilder rest = new StringBuilder();
        for (int i = 0; i < text.length(); i++) {
            rest.append(marks != null && marks[i] ? ' ' : text.charAt(i));
        }
        String untested = rest.toString().replaceAll("[^\\w]*\\s[^\\w]*", " ").trim();
        if (untested.matches("(?s).*\\w.*")) {
            say("no test of '" + heading + "' tells: " + untested);
        }
    }

    public static void main(String[] args) throws IOException {
        Map<String, String> sections = sections(Files.readString(Path.of("../shared/DOC.md")));
        Map<String, boolean[]> tested = new LinkedHashMap<>();
        int many = 0;
        for (Class<?> tests : TESTS) {
            for (Method test : Bounds.testsOf(tests)) {
                mark(sections, tested, test);
                many++;
            }
        }
        for (int n = 0; n <= PROMISES; n++) {
            String heading = n == 0 ? "Terms" : Integer.toString(n);
            if (!sections.containsKey(heading)) {
                say("no '" + heading + "'");
            } else {
                tellUntested(heading, sections.get(heading), tested.get(heading));
            }
        }
        System.out.println("document: " + many + " tests, "
                + (wrong == 0 ? "every sentence has one" : wrong + " things are not as told"));
        if (wrong != 0) {
            System.exit(1);
        }
    }
}
