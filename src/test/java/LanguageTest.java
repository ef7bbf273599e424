import java.nio.charset.StandardCharsets;
import java.nio.file.Files;
import java.nio.file.Path;
import java.util.List;
import java.util.regex.Matcher;
import java.util.regex.Pattern;

/** What of LANGUAGE.md can be seen by reading the source; run from the project's root. */
public final class LanguageTest {
    public static void main(String[] args) throws Exception {
        String source = Files.readString(Path.of("src/main/java/TwoForOne.java"), StandardCharsets.UTF_8);
        Check.due("signs of 1 to 127 alone", source.chars().allMatch(c -> c > 0 && c < 128), true);
        Check.due("long lines", source.lines().filter(l -> l.length() > 110).count(), 0);
        String code = source.replaceAll("(?s)/\\*.*?\\*/", " ").replaceAll("//[^\n]*", " ");
        for (String word : List.of("package", "try", "catch", "finally", "synchronized", "assert", "instanceof", "this\\.get",
                "->", "::", "float", "double", "System\\.(?!arraycopy)", "\\w*Exact\\(", "Integer\\.", "Object", "Thread",
                "static\\s*\\{", "new\\s+\\w+\\[[^]]*\\]\\[[^]]*\\]\\[", "import (?!java\\.util\\.NoSuchElementException;)",
                "Random", "getMessage", "hashCode", "toString", "equals", "clone", "String\\s*\\+", "\"\\s*\\+", "\\+\\s*\"")) {
            Check.due("none of " + word, Pattern.compile("(?<!\\w)" + word + (word.matches("\\w+") ? "\\b" : "")).matcher(code).find(), false);
        }
        Matcher thrown = Pattern.compile("throw\\s+(.*?);").matcher(code);
        while (thrown.find()) {
            boolean plain = thrown.group(1).matches("new (NoSuchElement|IllegalArgument)Exception\\(\"[^\"]*\"\\)");
            Check.due("a plain throw: " + thrown.group(), plain, true);
        }
        Check.due("classes", Pattern.compile("\\bclass \\w+ \\{").matcher(code).results().count() <= 12, true);
        methods(code);
        Check.end();
    }

    /** Methods stay short. */
    private static void methods(String code) {
        String[] lines = code.split("\n");
        int begin = -1;
        int depth = 0;
        for (int i = 0; i < lines.length; i++) {
            boolean head = lines[i].matches("^ {4}( {4})?(public |private )?(static )?(?!.*class )\\w.*\\) ?(throws .*)?\\{")
                    || lines[i].matches("^ {12}throws .*\\{");
            if (head && begin < 0) {
                begin = i;
                depth = lines[i].startsWith("            ") ? 4 : lines[i].indexOf(lines[i].trim());
            }
            if (begin >= 0 && lines[i].equals(" ".repeat(depth) + "}")) {
                Check.due("lines of " + lines[begin].trim(), i - begin <= 60, true);
                begin = -1;
            }
        }
        Check.due("the last one ended", begin, -1);
    }
}
