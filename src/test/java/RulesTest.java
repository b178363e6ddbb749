import java.io.IOException;
import java.nio.file.Files;
import java.nio.file.Path;
import java.util.regex.Matcher;
import java.util.regex.Pattern;

/** Rules of LANGUAGE.md that can be read off the source; its path is the argument. */
public final class RulesTest {
    private static final String[] FORBIDDEN = {
        "\\bthrow\\b", "\\bthrows\\b", "\\btry\\b", "\\bcatch\\b", "\\bsynchronized\\b", "\\bassert\\b", "\\bpackage\\b",
        "\\bimport\\b", "->", "::", "\\bvar\\b", "\\bfinally\\b", "\\bprotected\\b", "\\bdouble\\b", "\\bfloat\\b",
        "\\bObject\\b", "\\bhashCode\\b", "\\btoString\\b", "\\bequals\\b", "Exact\\b", "\\bnew int\\[.*\\]\\[",
        "\\bArrays\\b", "\\bstatic \\{", "\"",
    };
    private static final Pattern METHOD = Pattern.compile("^( {4}| {8})(public|private)[^=;]*\\(([^)]*)\\) \\{$");

    private RulesTest() {
    }

    public static void main(String[] args) throws IOException {
        Due due = new Due();
        String source = Files.readString(Path.of(args.length > 0 ? args[0] : "src/main/java/PatchHouse.java"));
        String code = source.replaceAll("(?s)/\\*.*?\\*/", "").replaceAll("//[^\n]*", "");
        for (String word : FORBIDDEN) {
            due.is("has " + word, !Pattern.compile(word).matcher(code).find());
        }
        due.is("signs are plain", source.chars().allMatch(c -> c == '\n' || c >= 32 && c < 127));
        methodsAreShort(due, source.split("\n"));
        due.end("RulesTest");
    }

    private static void methodsAreShort(Due due, String[] lines) {
        for (int i = 0; i < lines.length; i++) {
            Matcher m = METHOD.matcher(lines[i]);
            if (m.matches()) {
                int end = i;
                while (end < lines.length && !lines[end].equals(m.group(1) + "}")) {
                    end++;
                }
                due.is("line " + (i + 1) + ": lines of the method", end - i <= 60);
                due.is("line " + (i + 1) + ": parameters", m.group(3).split(",").length <= 7);
            }
        }
    }
}
