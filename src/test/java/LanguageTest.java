import java.io.IOException;
import java.nio.file.Files;
import java.nio.file.Path;
import java.util.List;
import java.util.regex.Matcher;
import java.util.regex.Pattern;

/** Looks for what LANGUAGE.md leaves out of the program's file; the compiler can't know that. */
public final class LanguageTest {
    private static final String[] LEFT_OUT = {
        "->", "::", "\\bcatch\\b", "\\bfinally\\b", "\\bsynchronized\\b", "\\bassert\\b", "Exact\\(", "\\bpackage\\b",
        "static \\{", "\\[\\]\\[\\]\\[\\]", "\\bprotected\\b", "\\bSystem\\.(?!arraycopy)", "\\bMath\\.(?!max|min)",
        "\\bthrow (?!new (NoSuchElementException|IllegalArgumentException)\\(\"[a-z ']*\"\\);)",
        "[^\\x00-\\x7f]", "\\bvar\\b", "\\b(Map|Set|Random|Thread|Object|String\\.format)\\b"};
    private static final int LONGEST_METHOD = 60;
    private static final int MOST_CLASSES = 12;

    public static void main(String[] args) throws IOException {
        List<String> lines = Files.readAllLines(Path.of(args[0]));
        int wrong = 0;
        int classes = 0;
        int begun = 0;
        for (int i = 0; i < lines.size(); i++) {
            String code = lines.get(i).replaceAll("/\\*.*\\*/|//.*", "");
            for (String pattern : LEFT_OUT) {
                Matcher found = Pattern.compile(pattern).matcher(code);
                if (found.find()) {
                    wrong++;
                    System.out.println("line " + (i + 1) + " has " + pattern + ": " + code.trim());
                }
            }
            if (code.startsWith("import ") && !code.matches("import java\\.util\\.(Arrays|NoSuchElementException);")) {
                wrong++;
                System.out.println("line " + (i + 1) + ": " + code);
            }
            classes += code.matches(".*\\b(class|enum|interface|record) [A-Z].*") ? 1 : 0;
            if (code.matches("( {4}| {8})(public|private) .*\\(.*")) {
                begun = i;
            }
            if (code.matches("( {4}| {8})\\}") && begun > 0 && i - begun > LONGEST_METHOD
                    && code.indexOf('}') == lines.get(begun).indexOf('p')) {
                wrong++;
                System.out.println("line " + (begun + 1) + " begins a long method");
            }
        }
        if (classes > MOST_CLASSES) {
            wrong++;
            System.out.println(classes + " classes");
        }
        System.out.println(wrong == 0 ? "the language is kept to" : wrong + " places are outside the language");
        if (wrong != 0) {
            System.exit(1);
        }
    }
}
