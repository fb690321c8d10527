import java.io.IOException;
import java.io.UncheckedIOException;
import java.nio.file.Files;
import java.nio.file.Path;
import java.util.ArrayList;
import java.util.HashMap;
import java.util.List;
import java.util.Map;
import java.util.regex.Matcher;
import java.util.regex.Pattern;

/** The document's words, and which of them are quoted by a test. */
final class Document {
    private static final Path PLACE = Path.of("../shared/DOC.md");
    private static final int TERMS = 0;
    private static final int PROMISES = 34;

    /** The words of one section, and for each sign whether it is quoted. */
    private static final class Section {
        final String words;
        final boolean[] quoted;

        Section(String words) {
            this.words = words;
            this.quoted = new boolean[words.length()];
        }

        boolean quote(String piece) {
            int at = words.indexOf(piece);
            boolean isThere = at >= 0;
            for (; at >= 0; at = words.indexOf(piece, at + 1)) {
                for (int i = at; i < at + piece.length(); i++) {
                    quoted[i] = true;
                }
            }
            return isThere;
        }

        /** Stretches with a letter or digit that no test quotes. */
        List<String> unquoted() {
            List<String> found = new ArrayList<>();
            StringBuilder stretch = new StringBuilder();
            for (int i = 0; i <= words.length(); i++) {
                if (i < words.length() && !quoted[i]) {
                    stretch.append(words.charAt(i));
                } else {
                    if (stretch.toString().matches(".*[A-Za-z0-9].*")) {
                        found.add(stretch.toString().trim());
                    }
                    stretch.setLength(0);
                }
            }
            return found;
        }
    }

    private final Map<Integer, Section> sections = new HashMap<>();

    Document() {
        String text;
        try {
            text = Files.readString(PLACE);
        } catch (IOException e) {
            throw new UncheckedIOException(e);
        }
        sections.put(TERMS, new Section(between(text, "## Terms", "## Promise 1:")));
        for (int n = 1; n <= PROMISES; n++) {
            String end = n < PROMISES ? "## Promise " + (n + 1) + ":" : "## Not promised";
            String section = between(text, "## Promise " + n + ":", end);
            // behind the heading and the call, which FaceTest holds
            sections.put(n, new Section(section.substring(section.indexOf("`:") + 2)));
        }
    }

    private static String between(String text, String from, String to) {
        Matcher found = Pattern.compile(Pattern.quote(from) + "(.*?)" + Pattern.quote(to), Pattern.DOTALL).matcher(text);
        if (!found.find()) {
            throw new AssertionError("the document has no section " + from);
        }
        return plain(found.group(1).replace("```text", "").replace("```", "").replaceAll("======== [0-9]", ""));
    }

    private static String plain(String words) {
        return words.replaceAll("\\s+", " ").trim();
    }

    /** Marks words of a promise, or of the terms, as quoted; false if neither has them. */
    boolean quote(int promise, String words) {
        Section own = sections.get(promise);
        return own != null && (own.quote(plain(words)) || sections.get(TERMS).quote(plain(words)));
    }

    /** Marks words of the terms that name no edge. */
    boolean pass(String words) {
        return sections.get(TERMS).quote(plain(words));
    }

    List<String> unquoted() {
        List<String> found = new ArrayList<>();
        for (int n = TERMS; n <= PROMISES; n++) {
            for (String words : sections.get(n).unquoted()) {
                found.add((n == TERMS ? "Terms" : "promise " + n) + ": " + words);
            }
        }
        return found;
    }
}
