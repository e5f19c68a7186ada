import java.io.IOException;
import java.nio.charset.StandardCharsets;
import java.nio.file.Files;
import java.nio.file.Path;
import java.util.List;
import java.util.Set;
import java.util.TreeSet;
import java.util.regex.Matcher;
import java.util.regex.Pattern;

/** Those rules of ../shared/LANGUAGE.md that can be seen in the source by plain means. */
public final class LanguageTest {
    private static final Path SOURCE = Path.of("src/main/java/RungByADrum.java");
    private static final String[] FORBIDDEN = {
        "->", "::", "\\bcatch\\b", "\\btry\\b", "\\bfinally\\b", "\\bthrow\\b", "\\bthrows\\b", "\\bsynchronized\\b",
        "\\bassert\\b", "\\bpackage\\b", "\\bprotected\\b", "\\bstatic\\s*\\{", "\\bequals\\b", "\\bhashCode\\b",
        "\\btoString\\b", "\\bThread\\b", "\\bRandom\\b", "\\w+Exact\\b", "\\bdouble\\b", "\\bfloat\\b", "\\bvar\\b"
    };
    private static final Set<String> LIBRARY = Set.of("System.arraycopy", "Arrays.fill", "Arrays.copyOf",
            "Arrays.copyOfRange", "Integer.bitCount", "Math.max", "Math.min", "Math.abs", "Math.floorMod", "Drum.CELLS",
            "FIRST_TEXT.length", "FIRST_TEXT.charAt");

    public static void main(String[] args) throws IOException {
        Due due = new Due();
        due.part("language");
        String source = Files.readString(SOURCE, StandardCharsets.US_ASCII);
        String code = source.replaceAll("(?s)/\\*.*?\\*/", "").replaceAll("//[^\\n]*", "")
                .replaceAll("\"[^\"]*\"", "\"\"");
        for (String word : FORBIDDEN) {
            due.holds("no " + word, !Pattern.compile(word).matcher(code).find());
        }
        Set<String> imports = new TreeSet<>();
        Matcher line = Pattern.compile("import ([\\w.]+);").matcher(code);
        while (line.find()) {
            imports.add(line.group(1));
        }
        due.holds("imports " + imports, Set.of("java.util.Arrays", "java.util.ArrayList", "java.util.List").containsAll(imports));
        Matcher use = Pattern.compile("\\b[A-Z]\\w*\\.\\w+").matcher(code);
        while (use.find()) {
            due.holds(use.group() + " is listed", LIBRARY.contains(use.group()));
        }
        Matcher rest = Pattern.compile("[%/] *=? *([A-Za-z]\\w*)").matcher(code);
        while (rest.find()) {
            due.holds(rest.group() + " divides by a constant or behind a test",
                    Set.of("OCTAVE", "length").contains(rest.group(1)));
        }
        due.holds("twelve classes at most", code.split("\\bclass\\b").length - 1 <= 12);
        methodsAreShort(due, List.of(source.split("\n")));
        due.end();
    }

    private static void methodsAreShort(Due due, List<String> lines) {
        int start = -1;
        String indent = "";
        for (int i = 0; i < lines.size(); i++) {
            Matcher head = Pattern.compile("( {8}| {4})(?! )[\\w ]*\\w\\(([^()]*)\\) \\{").matcher(lines.get(i));
            if (head.matches() && start < 0) {
                start = i;
                indent = head.group(1);
                due.holds("seven parameters at most: " + lines.get(i), head.group(2).split(",").length <= 7);
            } else if (start >= 0 && lines.get(i).equals(indent + "}")) {
                due.holds("a short method: " + lines.get(start), i - start < 60);
                start = -1;
            }
        }
        due.holds("every method has an end", start < 0);
    }
}
