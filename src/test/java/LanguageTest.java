import java.io.IOException;
import java.nio.file.Files;
import java.nio.file.Path;
import java.util.ArrayList;
import java.util.List;
import java.util.regex.Matcher;
import java.util.regex.Pattern;

/** What of ../shared/LANGUAGE.md can be seen in the source's signs alone. */
public final class LanguageTest {
    private static final String[][] RULED_OUT = {
        {"1", "^\\s*package\\b"},
        {"2", "->"}, {"2", "::"}, {"2", "\\bnew \\w+(\\[\\])?\\([^()]*\\) *\\{"},
        {"4", "^\\s*import\\b"}, {"4", "\\bjava\\."}, {"4", "\\bSystem\\.(?!arraycopy\\b)"}, {"4", "Exact\\b"},
        {"4", "\\bMath\\.(?!max\\b|min\\b|abs\\b)"}, {"4", "\\bObjects?\\b"}, {"4", "\\bString\\."},
        {"5", "\\bstatic \\{"}, {"5", "\\bstatic (?!final\\b)(?!class\\b)\\w+ \\w+ *(=|;)"},
        {"6", "\\b(throw|throws|try|catch|synchronized|assert)\\b"}, {"6", "\\b(hashCode|toString)\\b"},
        {"9", "while \\(true\\)"}, {"9", "for \\(;;\\)"},
        {"13", "\\b(Random|Thread|Runtime|nanoTime|currentTimeMillis)\\b"}};

    private static int wrong = 0;

    private static void say(String what) {
        wrong++;
        System.out.println("language: " + what);
    }

    private static String bare(String source) {
        String s = source.replaceAll("(?s)/\\*.*?\\*/", "").replaceAll("//[^\n]*", "");
        return s.replaceAll("'.'", "'x'").replaceAll("\"[^\"\n]*\"", "\"\"");
    }

    private static void checkWords(String[] lines) {
        for (int i = 0; i < lines.length; i++) {
            for (String[] rule : RULED_OUT) {
                if (Pattern.compile(rule[1]).matcher(lines[i]).find()) {
                    say("rule " + rule[0] + ": " + lines[i].trim());
                }
            }
        }
    }

    /** Rule 11: at most seven parameters, methods of some sixty lines. */
    private static void checkMethods(String[] lines) {
        Pattern head = Pattern.compile("^( +)(?!return|else|new)[\\w<>\\[\\] ]*?(\\w+)\\(([^()]*)\\) \\{$");
        for (int i = 0; i < lines.length; i++) {
            Matcher m = head.matcher(lines[i]);
            if (!m.find() || lines[i].matches("^ +(if|for|while|switch|\\}).*")) {
                continue;
            }
            if (m.group(3).split(",").length > 7) {
                say("rule 11: parameters of " + m.group(2));
            }
            int end = i;
            while (end < lines.length && !lines[end].equals(m.group(1) + "}")) {
                end++;
            }
            if (end - i > 60) {
                say("rule 11: lines of " + m.group(2));
            }
        }
    }

    private static void checkSigns(String source) {
        for (int i = 0; i < source.length(); i++) {
            if (source.charAt(i) > 126 || source.charAt(i) < 10) {
                say("a sign " + (int) source.charAt(i) + " at " + i);
            }
        }
    }

    public static void main(String[] args) throws IOException {
        Path path = Path.of("src/main/java/BeanVoices.java");
        String source = Files.readString(path);
        List<String> lines = new ArrayList<>();
        for (String line : bare(source).split("\n")) {
            lines.add(line);
        }
        checkWords(lines.toArray(new String[0]));
        checkMethods(lines.toArray(new String[0]));
        checkSigns(source);
        System.out.println("language: " + (wrong == 0 ? "as told" : wrong + " things are not as told"));
        if (wrong != 0) {
            System.exit(1);
        }
    }
}
