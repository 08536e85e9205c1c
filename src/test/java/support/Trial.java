import java.io.IOException;
import java.nio.file.Files;
import java.nio.file.Path;
import java.util.ArrayList;
import java.util.Arrays;
import java.util.List;

/**
 * A run of calls on a new object, told in rows, of one sentence of the document: "> words of it", then
 * "name arguments = answer" ("= answer" may lack). An argument may be "a..b" (each of them), "least" or "greatest"
 * (of an int). "5 times name .." calls it so often, "letters TEXT" calls letter for each, "tell TEXT" town() too.
 * "== name" ahead of trials is the section of the document, "#" begins a remark.
 */
public final class Trial {
    private static final int MOST_CALLS = 512;

    public final String section;
    public final String words;
    private final List<String> rows = new ArrayList<>();
    private EndsWhenRead object;
    private EndsWhenRead twin;
    private int calls;

    private Trial(String section, String words) {
        this.section = section;
        this.words = words;
    }

    public static List<Trial> readAll(Path file) throws IOException {
        List<Trial> trials = new ArrayList<>();
        String section = "";
        for (String line : Files.readAllLines(file)) {
            if (line.startsWith("== ")) {
                section = line.substring(3);
            } else if (line.startsWith("> ")) {
                trials.add(new Trial(section, line.substring(2)));
            } else if (!line.isBlank() && !line.startsWith("#")) {
                trials.get(trials.size() - 1).rows.add(line.strip());
            }
        }
        return trials;
    }

    /**
     * Makes the calls and looks at the answers. A twin is told only what is promised to change something: at the end
     * nothing but REFUSALS may differ.
     */
    public void run() throws ReflectiveOperationException {
        object = new EndsWhenRead();
        twin = new EndsWhenRead();
        calls = 0;
        for (String row : rows) {
            int times = 1;
            String call = row;
            if (row.matches("\\d+ times .*")) {
                times = Integer.parseInt(row.substring(0, row.indexOf(' ')));
                call = row.substring(row.indexOf(" times ") + 7);
            }
            for (int i = 0; i < times; i++) {
                play(call);
            }
        }
        Due.due("rows", 1, rows.isEmpty() ? 0 : 1);
        Due.due("at most 512 calls", 1, calls <= MOST_CALLS ? 1 : 0);
        if (calls + Calls.SEEN_AT_MOST <= MOST_CALLS) {
            boolean alike = Calls.seen(object).equals(Calls.seen(twin));
            Due.due("as without the calls that may change nothing", 1, alike ? 1 : 0);
        }
    }

    private void play(String row) throws ReflectiveOperationException {
        int cut = row.lastIndexOf(" = ");
        String call = cut < 0 ? row : row.substring(0, cut);
        String due = cut < 0 ? "" : row.substring(cut + 3);
        String[] words = call.split(" ");
        switch (words[0]) {
            case "letters":
                letters(words[1]);
                break;
            case "tell":
                letters(words[1]);
                playOne(call, "town", due);
                break;
            default:
                playEach(words, 1, new int[words.length - 1], due);
                break;
        }
    }

    private void letters(String text) throws ReflectiveOperationException {
        for (char c : text.toCharArray()) {
            playOne("letter of " + text, "letter", "", c);
        }
    }

    private void playEach(String[] words, int from, int[] args, String due) throws ReflectiveOperationException {
        if (from == words.length) {
            playOne(words[0] + " " + Arrays.toString(args), words[0], due, args);
            return;
        }
        int dots = words[from].indexOf("..");
        int first = number(dots < 0 ? words[from] : words[from].substring(0, dots));
        int last = dots < 0 ? first : number(words[from].substring(dots + 2));
        for (long value = first; value <= last; value++) {
            args[from - 1] = (int) value;
            playEach(words, from + 1, args, due);
        }
    }

    private static int number(String word) {
        switch (word) {
            case "least": return Integer.MIN_VALUE;
            case "greatest": return Integer.MAX_VALUE;
            default: return Integer.parseInt(word);
        }
    }

    private void playOne(String shown, String name, String due, int... args) throws ReflectiveOperationException {
        calls++;
        long got = Calls.answer(object, name, args);
        if (!due.isEmpty()) {
            Due.due(shown, Long.parseLong(due), got);
        }
        if (Calls.tells(name) && Calls.refusal(name, got) == 0) {
            Calls.answer(twin, name, args);
        }
    }
}
