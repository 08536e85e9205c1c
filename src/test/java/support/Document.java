import java.io.IOException;
import java.nio.file.Files;
import java.nio.file.Path;
import java.util.BitSet;
import java.util.LinkedHashMap;
import java.util.List;
import java.util.Map;
import java.util.regex.Matcher;
import java.util.regex.Pattern;

/** ../shared/DOC.md by its sections, and which of its words have a trial. */
public final class Document {
    /** The words by which a boundary case is named: refusals, spans of numbers, least, most, first, else, not .. */
    private static final Pattern NAMES_A_BOUNDARY = Pattern.compile("-\\d+|\\d+ \\.\\. \\d+|\\bat (?:most|least|first)\\b"
            + "|\\bAt least\\b|\\b(?:if|else|never|not|no|none|nothing|neither|already|above|below|least|greatest"
            + "|too|cut|lacks|till|always|only|alone|once|either|any|likewise|whichever|whatever|again|more than)\\b"
            + "|gone round|without|\\b0 by 1\\b|an int");

    private final Map<String, String> texts = new LinkedHashMap<>();
    private final Map<String, BitSet> tried = new LinkedHashMap<>();

    public Document(Path file) throws IOException {
        for (String part : Files.readString(file).split("(?m)^## ")) {
            int end = part.indexOf('\n');
            String head = part.substring(0, end).replaceAll(":.*", "");
            texts.put(head, part.substring(end).replaceAll("\\s+", " "));
            tried.put(head, new BitSet());
        }
    }

    /** How often the words stand in the section; where they do, they have a trial from now on. */
    public int tries(String section, String words) {
        int found = 0;
        String text = texts.getOrDefault(section, "");
        for (int at = text.indexOf(words); at >= 0; at = text.indexOf(words, at + 1)) {
            tried.get(section).set(at, at + words.length());
            found++;
        }
        return found;
    }

    /** Each word that names a boundary case must be in words that have a trial. */
    public void dueAllTried(String... leftOut) {
        for (Map.Entry<String, String> section : texts.entrySet()) {
            if (!List.of(leftOut).contains(section.getKey())) {
                Due.promise(section.getKey());
                dueTried(section.getValue(), tried.get(section.getKey()));
            }
        }
    }

    private static void dueTried(String text, BitSet with) {
        Matcher words = NAMES_A_BOUNDARY.matcher(text);
        while (words.find()) {
            boolean all = with.nextClearBit(words.start()) >= words.end();
            String about = text.substring(Math.max(0, words.start() - 30), Math.min(text.length(), words.end() + 30));
            Due.due("a trial of '" + words.group() + "' in '.. " + about + " ..'", 1, all ? 1 : 0);
        }
    }
}
