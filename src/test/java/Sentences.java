import java.io.IOException;
import java.nio.file.Files;
import java.nio.file.Path;
import java.util.BitSet;
import java.util.LinkedHashMap;
import java.util.List;
import java.util.Map;
import java.util.regex.Matcher;
import java.util.regex.Pattern;

/** Runs a test for each sentence of the document, and tells which sentences no test quotes. */
final class Sentences {
    private static final Path DOCUMENT = Path.of("../shared/DOC.md");
    /** It has no mark of a heading in the document. */
    private static final String BARE_HEADING = "Notes, hours, deliveries";
    private static final List<String> TERMS =
        List.of("Terms", "Assets", "Shots", "The cache", "Rendering", BARE_HEADING);
    /** What asks for nothing: the head of a call, an argument without bounds, the order of the face. */
    private static final Pattern ASKS_NOTHING = Pattern.compile(
        "(?m)^`[^`]+`:|^- `(\\w+)`: the \\1$|^Ahead of the calls .*$");

    private final Check check;
    private final Map<String, String> texts = new LinkedHashMap<>();
    private final Map<String, BitSet> quoted = new LinkedHashMap<>();
    private String section = "";

    Sentences(Check check) throws IOException {
        this.check = check;
        if (Files.exists(DOCUMENT)) {
            readSections(Files.readAllLines(DOCUMENT));
        } else {
            System.out.println("no " + DOCUMENT + ": whether all its sentences are tested is not looked at");
        }
    }

    private void readSections(List<String> lines) {
        String heading = "";
        for (String line : lines) {
            if (line.startsWith("#") || line.equals(BARE_HEADING)) {
                heading = line.replaceFirst("^#+ ", "");
                texts.put(heading, "");
                quoted.put(heading, new BitSet());
            } else {
                texts.merge(heading, line + "\n", String::concat);
            }
        }
    }

    void in(String heading) {
        section = heading;
        if (!texts.isEmpty()) {
            check.yes("the document has the section " + heading, texts.containsKey(heading));
        }
    }

    /** A test of its own for a sentence of the section. */
    void says(String sentence, Runnable test) {
        mark(sentence);
        check.begin(section + ": \"" + sentence + '"');
        int before = check.many();
        try {
            test.run();
        } catch (RuntimeException e) {
            check.compare("the test itself", "no exception", e + " at " + e.getStackTrace()[0]);
        }
        check.yes("it is looked at", check.many() > before);
        check.begin("");
    }

    private void mark(String sentence) {
        String text = texts.getOrDefault(section, "");
        int at = text.indexOf(sentence);
        if (!texts.isEmpty()) {
            check.yes(section + " says \"" + sentence + '"', at >= 0);
        }
        while (at >= 0) {
            quoted.get(section).set(at, at + sentence.length());
            at = text.indexOf(sentence, at + 1);
        }
    }

    /** All promises and terms are to be quoted, but for signs between the quotes. */
    void end() {
        for (Map.Entry<String, String> each : texts.entrySet()) {
            String heading = each.getKey();
            if (heading.startsWith("Promise ") || TERMS.contains(heading)) {
                check.compare("what no test quotes of " + heading, "", unquoted(heading, each.getValue()));
            }
        }
    }

    private String unquoted(String heading, String text) {
        BitSet known = (BitSet) quoted.get(heading).clone();
        Matcher nothing = ASKS_NOTHING.matcher(text);
        while (nothing.find()) {
            known.set(nothing.start(), nothing.end());
        }
        StringBuilder left = new StringBuilder();
        for (int i = 0; i < text.length(); i++) {
            left.append(known.get(i) ? '|' : text.charAt(i));
        }
        // Words alone count; "and" stands between quotes.
        String words = left.toString().replaceAll("\\|+", "|").replaceAll("[\\s.,;:|-]+", " ").trim();
        return words.replaceAll("\\band\\b", "").trim();
    }
}
