import java.io.IOException;
import java.nio.file.Files;
import java.nio.file.Path;
import java.util.ArrayList;
import java.util.List;
import java.util.TreeSet;
import java.util.regex.Matcher;
import java.util.regex.Pattern;

/** The public face word for word: what the document's class has, and nothing else, in the program's file. */
public final class FaceTest extends Checks {
    private static final Pattern DECLARED = Pattern.compile("\\bpublic\\s[^{;]*");

    public static void main(String[] args) throws IOException {
        String program = Files.readString(Path.of(args[0]));
        List<String> face = declared(block(Files.readString(Path.of(args[1]))));
        List<String> own = declared(program.replaceAll("(?s)/\\*.*?\\*/|//[^\n]*", ""));
        about("the face");
        due("what the document has: one class, one constant, one constructor, and methods", face.size(), 40);
        for (String one : face) {
            due("the program has " + one, own.contains(one), true);
        }
        for (String one : own) {
            due("the document has " + one, face.contains(one), true);
        }
        due("nothing stands twice", new TreeSet<>(own).size(), own.size());
        about("the classes that it may name");
        due("NoSuchElementException is java.util's", program.contains("import java.util.NoSuchElementException;"), true);
        due("there is no package line", Pattern.compile("(?m)^package\\b").matcher(program).find(), false);
        end("the face is the document's");
    }

    /** The Java in the document, which is its face alone. */
    private static String block(String document) {
        int from = document.indexOf("```java");
        int to = document.indexOf("```", from + 3);
        return from < 0 || to < 0 ? "" : document.substring(from, to);
    }

    private static List<String> declared(String java) {
        List<String> all = new ArrayList<>();
        Matcher found = DECLARED.matcher(java);
        while (found.find()) {
            all.add(found.group().replaceAll("\\s+", " ").trim());
        }
        return all;
    }
}
