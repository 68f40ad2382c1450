import java.io.IOException;
import java.nio.file.Files;
import java.nio.file.Path;
import java.util.ArrayList;
import java.util.Arrays;
import java.util.List;

/** The sentences of the document, and which of them a test has quoted: what nobody quotes nobody tests. */
final class Document {
    private final String text;
    private final boolean[] quoted;

    /** The sentence on an object's calls and all from the terms to what is not promised, without face and headings. */
    Document(Path path) throws IOException {
        String all = Files.readString(path);
        int from = all.indexOf("## Terms");
        int to = all.indexOf("## Not promised");
        List<String> kept = new ArrayList<>();
        kept.add(all.lines().filter(line -> line.startsWith("An object is used")).findFirst().orElse(""));
        for (String line : all.substring(from, to).split("\n")) {
            if (!line.startsWith("#") && !line.startsWith("```")) {
                kept.add(line.replaceFirst("^`[^`]*`: ", "").replaceFirst("^==== \\d\\. ", ""));
            }
        }
        text = plain(String.join(" ", kept));
        quoted = new boolean[text.length()];
    }

    private static String plain(String words) {
        return words.replaceAll("\\s+", " ").trim();
    }

    /** Whether these words stand in the document; the first place where they do that is not quoted yet is quoted. */
    boolean quote(String words) {
        String wanted = plain(words);
        int first = text.indexOf(wanted);
        int at = first;
        while (at >= 0 && quoted[at] && quoted[at + wanted.length() - 1]) {
            at = text.indexOf(wanted, at + 1);
        }
        if (at >= 0) {
            Arrays.fill(quoted, at, at + wanted.length(), true);
        }
        return first >= 0 && !wanted.isEmpty();
    }

    /** The rows of words that no quotation has; signs and blanks alone are none. */
    List<String> unquoted() {
        List<String> rows = new ArrayList<>();
        StringBuilder row = new StringBuilder();
        for (int i = 0; i <= text.length(); i++) {
            if (i < text.length() && !quoted[i]) {
                row.append(text.charAt(i));
            } else {
                if (row.toString().matches("(?s).*[A-Za-z0-9].*")) {
                    rows.add(row.toString().trim());
                }
                row.setLength(0);
            }
        }
        return rows;
    }
}
