import java.io.IOException;
import java.io.UncheckedIOException;
import java.nio.file.Files;
import java.nio.file.Path;
import java.util.Map;
import java.util.TreeMap;
import java.util.regex.Matcher;
import java.util.regex.Pattern;

/** The document's sentences, and which of them a test has quoted. Section 0 is its Terms, the others are promises. */
final class Doc {
    private static final Path PLACE = Path.of("../shared/DOC.md");
    private static final int PROMISES = 41;
    private static final Pattern HEADING = Pattern.compile("^## (Terms|Promise (\\d+): .*|.*)$", Pattern.MULTILINE);
    /** The blank behind a full stop; ".." is none. */
    private static final Pattern BETWEEN = Pattern.compile("(?<=[^.][.]) (?=[A-Z(0-9])");

    private final Map<Integer, String> sections = new TreeMap<>();
    private final Map<Integer, boolean[]> quoted = new TreeMap<>();

    /** Without the document the tests are as good, only nobody holds their quotes against it: that is told, no fault. */
    private final boolean isThere = Files.isReadable(PLACE);

    Doc() {
        if (!isThere) {
            System.out.println(PLACE + " is not there: no quote is held against it");
            return;
        }
        String text = whole();
        Matcher m = HEADING.matcher(text);
        int section = -1;
        int from = 0;
        while (m.find()) {
            keep(section, text.substring(from, m.start()));
            section = m.group(2) != null ? Integer.parseInt(m.group(2)) : m.group(1).equals("Terms") ? 0 : -1;
            from = m.end();
        }
        keep(section, text.substring(from));
    }

    private static String whole() {
        try {
            return Files.readString(PLACE);
        } catch (IOException e) {
            throw new UncheckedIOException(e);
        }
    }

    private void keep(int section, String text) {
        if (section < 0) return;
        // a promise's signature names no edge, nor does what the interface says ahead of its calls
        String told = text.replaceAll("(?m)^`[^`]*`:", "").replaceAll("(?m)^Ahead of the calls .*$", "")
            .replace("```text", "").replace("```", "").replaceAll("\\s+", " ").trim();
        sections.put(section, told);
        quoted.put(section, new boolean[told.length()]);
    }

    /** Whether the words stand in the section, which are quoted then. */
    boolean quote(int section, String words) {
        if (!isThere) return true;
        int at = sections.getOrDefault(section, "").indexOf(words);
        if (at < 0 || words.isEmpty()) return false;
        for (int i = at; i < at + words.length(); i++) quoted.get(section)[i] = true;
        return true;
    }

    /** Tells every sentence of which no test has quoted a word. */
    void tellUnquoted() {
        if (!isThere) return;
        Due.is("promises of the document", sections.size() - 1, PROMISES);
        for (int section : sections.keySet()) {
            int from = 0;
            for (String sentence : BETWEEN.split(sections.get(section))) {
                boolean isNumber = sentence.matches("\\d+[.]");
                boolean isQuoted = isNumber || anyQuoted(quoted.get(section), from, from + sentence.length());
                Due.is("section " + section + ": tests of '" + sentence + "'", isQuoted ? 1 : 0, 1);
                from += sentence.length() + 1;
            }
        }
    }

    private static boolean anyQuoted(boolean[] marks, int from, int to) {
        for (int i = from; i < to; i++) if (marks[i]) return true;
        return false;
    }
}
