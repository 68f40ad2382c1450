import java.io.IOException;
import java.nio.file.DirectoryStream;
import java.nio.file.Files;
import java.nio.file.Path;
import java.util.regex.Matcher;
import java.util.regex.Pattern;

/** The example of README.md: each call there answers what stands behind it. */
public final class ReadmeTest extends Checks {
    private static final Pattern CALL = Pattern.compile("x\\.(\\w+)\\(([-\\d, ]*)\\);\\s*// ([-\\w.]+):.*");
    private static final int FEWEST_CALLS = 10;

    public static void main(String[] args) throws IOException {
        String page = Files.readString(Path.of(args[0]));
        String text = block(page, "text", "song");
        String example = block(page, "java", "GapSongs x");
        about("README.md");
        GapSongs x = of(text);
        int calls = 0;
        for (String line : example.split("\n")) {
            Matcher call = CALL.matcher(line);
            if (call.matches()) {
                calls++;
                due(line, ask(x, call.group(1), numbers(call.group(2))), call.group(3));
            } else {
                due(line, line.startsWith("GapSongs x =") || line.startsWith("tell(x, text);"), true);
            }
        }
        due("calls in the example, too few", calls < FEWEST_CALLS, false);
        allTold(page, Path.of(args[1]));
        end("README.md holds");
    }

    private static void allTold(String page, Path tests) throws IOException {
        try (DirectoryStream<Path> files = Files.newDirectoryStream(tests, "*Test.java")) {
            for (Path file : files) {
                String name = file.getFileName().toString().replace(".java", "");
                due("README.md tells of " + name, page.contains("`" + name + "`"), true);
            }
        }
    }

    /** The first block of this kind that begins with these words. */
    private static String block(String page, String kind, String words) {
        String head = "```" + kind + "\n" + words;
        int from = page.indexOf(head);
        int to = page.indexOf("\n```", from + head.length());
        return from < 0 || to < 0 ? "" : page.substring(from + kind.length() + 4, to);
    }

    private static int[] numbers(String list) {
        if (list.isBlank()) {
            return new int[0];
        }
        String[] words = list.split(",");
        int[] all = new int[words.length];
        for (int i = 0; i < all.length; i++) {
            all[i] = Integer.parseInt(words[i].trim());
        }
        return all;
    }
}
