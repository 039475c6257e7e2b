import java.io.IOException;
import java.nio.file.Files;
import java.nio.file.Path;
import java.util.List;
import java.util.regex.Matcher;
import java.util.regex.Pattern;

/** Those rules of LANGUAGE.md that can be read off the text of the class. */
public final class LanguageTest {
    private static final Check check = new Check("language");
    private static final List<String> EXCEPTIONS = List.of("IllegalStateException", "IllegalArgumentException",
            "IndexOutOfBoundsException", "UnsupportedOperationException", "NoSuchElementException");

    public static void main(String[] args) throws IOException {
        String text = Files.readString(Path.of("src/main/java/PastTree.java"));
        String code = text.replaceAll("(?s)/\\*.*?\\*/", " ").replaceAll("//[^\n]*", " ");
        none(code, "no package", "^\\s*package\\b");
        none(code, "rule 2: no lambda, no method reference", "->|::");
        none(code, "rule 4: no function whose name ends in Exact", "Exact\\b");
        none(code, "rule 6: nothing is caught", "\\b(try|catch|finally)\\b");
        none(code, "rule 6: no synchronized, assert, instanceof", "\\b(synchronized|assert|instanceof)\\b");
        none(code, "rule 13: no clock, randomness, thread or environment", "\\b(System\\.(?!arraycopy)|Random|Thread)\\b");
        none(code, "rule 5: static fields are final", "\\bstatic\\s+(?!final\\b)(int|long|boolean)\\s+\\w+\\s*[=;]");
        none(code, "rule 9: no loop without a bound", "while\\s*\\(\\s*true|for\\s*\\(\\s*;");
        Matcher imports = Pattern.compile("import\\s+([\\w.]+);").matcher(code);
        while (imports.find()) {
            check.same("import", imports.group(1), "java.util.NoSuchElementException");
        }
        Matcher thrown = Pattern.compile("\\bthrow\\s+new\\s+(\\w+)\\((\"[^\"]*\")?\\)").matcher(code);
        int found = 0;
        while (thrown.find()) {
            found++;
            check.that("rule 6: " + thrown.group(1), EXCEPTIONS.contains(thrown.group(1)));
        }
        check.same("rule 6: each throw has a written text", found, code.split("\\bthrow\\b", -1).length - 1);
        lengths(code);
        check.end();
    }

    private static void none(String code, String what, String pattern) {
        Matcher matcher = Pattern.compile(pattern, Pattern.MULTILINE).matcher(code);
        check.that(what, !matcher.find());
    }

    /** Rule 11: a method starts at an indent of 4 or 8 with a "(" and ends with a "}" at the same one. */
    private static void lengths(String code) {
        String[] lines = code.split("\n");
        int methods = 0;
        for (int i = 0; i < lines.length; i++) {
            Matcher head = Pattern.compile("^( {4}| {8})[a-zA-Z][^;={]*\\(([^)]*)\\).*\\{$").matcher(lines[i]);
            if (!head.find() || lines[i].contains(" class ")) {
                continue;
            }
            methods++;
            int end = i;
            while (end < lines.length && !lines[end].equals(head.group(1) + "}")) {
                end++;
            }
            check.that("rule 11: the method at line " + (i + 1) + " is short", end - i <= 60);
            check.that("rule 11: it has few parameters", head.group(2).split(",").length <= 7);
        }
        check.that("methods were found", methods > 60);
    }
}
