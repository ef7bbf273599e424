import java.nio.charset.StandardCharsets;
import java.nio.file.Files;
import java.nio.file.Path;
import java.util.List;
import java.util.regex.Matcher;
import java.util.regex.Pattern;

/** What of LANGUAGE.md can be seen by reading the source; run from the project's root. */
public final class LanguageTest {
    private static final String THROWN = "new (IllegalState|IllegalArgument|IndexOutOfBounds|Arithmetic|UnsupportedOperation|NoSuchElement|Runtime)"
            + "Exception\\((\"[^\"]*\")?\\)";

    public static void main(String[] args) throws Exception {
        String source = Files.readString(Path.of("src/main/java/TwoForOne.java"), StandardCharsets.ISO_8859_1);
        String code = source.replaceAll("(?s)/\\*.*?\\*/", " ").replaceAll("//[^\n]*", " ");
        Check.edge("3 texts: their signs are 1 to 127", () -> Check.due("signs", code.chars().allMatch(c -> c > 0 && c < 128), true));
        without("1 the face", code, "package\\b", "protected\\b", "(?m)^    (static |final )*(int|long|boolean|void) \\w+[ (;=]");
        without("2 the classes inside", code.replaceAll("(case [^\n]*|default) ->", ""), "->", "::");
        without("3 types", code, "Object\\b", "List<int\\[", "\\[\\]\\[\\]\\[", "Double\\b", "Float\\b", "Long\\s*\\w+\\s*[=;]", "Character\\b");
        without("4 the library", code, "System\\.(?!arraycopy\\b)", "\\w*Exact\\(", "Math\\.(sqrt|pow|random|floor\\(|ceil|round|sin|cos)",
                "import (?!java\\.util\\.(NoSuchElementException|ArrayList|List|Arrays|Iterator);)", "String\\.(format|valueOf|join)",
                "Arrays\\.(?!copyOf\\b|copyOfRange\\b|fill\\b)", "java\\.(io|net|nio|time|lang)", "Map\\b", "Set<", "Random\\b");
        without("5 static fields", code, "static\\s*\\{");
        without("6 exceptions", code, "finally\\b", "synchronized\\b", "assert\\b", "getMessage\\b", "try\\s*\\(", "extends \\w*Exception",
                "(hashCode|toString|equals)\\(\\)\\s*\\{", "catch \\((Throwable|Error|ArrayIndexOutOfBounds|NullPointer|ClassCast)");
        without("10 joining texts by StringBuilder", code, "\"\\s*\\+", "\\+\\s*\"");
        without("13 no clock, no randomness, no thread", code, "currentTimeMillis", "nanoTime", "Thread\\b", "Math\\.random");
        Check.edge("6 exceptions: what is thrown is new, of one of these, with a written text", () -> {
            Matcher thrown = Pattern.compile("\\bthrow\\s+(.*?);").matcher(code);
            while (thrown.find()) {
                Check.due("a plain throw: " + thrown.group(), thrown.group(1).matches(THROWN), true);
            }
        });
        Check.edge("9 every loop counts against a bound", () -> loops(code));
        Check.edge("11 methods stay short", () -> methods(code));
        Check.edge("11 some twelve classes", () -> {
            long classes = Pattern.compile("\\b(class|record|enum|interface) \\w+[^;{]*\\{").matcher(code).results().count();
            Check.due("classes", classes <= 14, true);
        });
        Check.end();
    }

    private static void without(String rule, String code, String... patterns) {
        for (String pattern : patterns) {
            Check.edge(rule + ": none of " + pattern, () -> {
                Matcher found = Pattern.compile("(?<![\\w\"])" + pattern).matcher(code);
                Check.due(found.find() ? found.group() : "", found.reset().find(), false);
            });
        }
    }

    /** Something that a loop's head compares is counted in its head or its body; a loop over an array has its end. */
    private static void loops(String code) {
        Matcher loop = Pattern.compile("\\b(for|while) \\(").matcher(code);
        while (loop.find()) {
            int behindHead = behind(code, loop.end() - 1, '(', ')');
            String head = code.substring(loop.start(), behindHead);
            String whole = code.substring(loop.start(), behind(code, code.indexOf("{", behindHead), '{', '}'));
            boolean counts = !head.contains(";") && head.contains(" : ");
            Matcher compared = Pattern.compile("\\b(\\w+) [<>]=? (?=(\\w+))").matcher(head);
            while (compared.find()) {
                counts |= isCounted(compared.group(1), whole) || isCounted(compared.group(2), whole);
            }
            Check.due("counts: " + head, counts, true);
        }
    }

    private static boolean isCounted(String name, String whole) {
        return Pattern.compile("\\b" + name + "(\\+\\+|--| [+-]= )").matcher(whole).find();
    }

    /** The place behind the bracket that closes the one that opens here. */
    private static int behind(String code, int from, char opening, char closing) {
        int depth = 0;
        for (int i = from; i < code.length(); i++) {
            depth += code.charAt(i) == opening ? 1 : code.charAt(i) == closing ? -1 : 0;
            if (depth == 0) {
                return i + 1;
            }
        }
        return code.length();
    }

    private static void methods(String code) {
        String[] lines = code.split("\n");
        int begin = -1;
        int depth = 0;
        for (int i = 0; i < lines.length; i++) {
            boolean head = lines[i].matches("^ {4}( {4})?(public |private )?(static )?(?!.*class )\\w.*\\) ?(throws .*)?\\{")
                    || lines[i].matches("^ {12}throws .*\\{");
            if (head && begin < 0) {
                begin = i;
                depth = lines[i].startsWith("            ") ? 4 : lines[i].indexOf(lines[i].trim());
            }
            if (begin >= 0 && lines[i].equals(" ".repeat(depth) + "}")) {
                Check.due("lines of " + lines[begin].trim(), i - begin <= 70, true);
                begin = -1;
            }
        }
    }
}
