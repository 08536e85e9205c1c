import java.io.IOException;
import java.lang.reflect.Method;
import java.lang.reflect.Modifier;
import java.nio.file.DirectoryStream;
import java.nio.file.Files;
import java.nio.file.Path;
import java.util.regex.Matcher;
import java.util.regex.Pattern;

/** README.md: its example answers what it says, and it names every call and every test. */
public final class ReadmeTest {
    private static final Pattern LETTERS = Pattern.compile("\"([^\"]*)\"\\.toCharArray\\(\\)");
    private static final Pattern CALL = Pattern.compile("(?m)^x\\.(\\w+)\\(([^)]*)\\);(.*)$");
    private static final Pattern ANSWER = Pattern.compile("^ +// (-?\\d+)\\b.*$");

    private ReadmeTest() {
    }

    public static void main(String[] args) throws Exception {
        String page = Files.readString(Path.of("README.md"));
        example(page);
        callsNamed(page);
        testsNamed(page);
        Due.end();
    }

    private static void example(String page) throws ReflectiveOperationException {
        Due.promise("the example");
        int from = page.indexOf("```java\n");
        int to = page.indexOf("```\n", from + 1);
        Due.due("an example stands there", 1, from >= 0 && to > from ? 1 : 0);
        String code = from >= 0 && to > from ? page.substring(from, to) : "";
        EndsWhenRead x = new EndsWhenRead();
        Matcher letters = LETTERS.matcher(code);
        Due.due("it tells letters", 1, letters.find() ? 1 : 0);
        Due.letters(x, letters.group(1));
        Matcher calls = CALL.matcher(code);
        int many = 0;
        while (calls.find()) {
            long got = Calls.answer(x, calls.group(1), numbers(calls.group(2)));
            Matcher answer = ANSWER.matcher(calls.group(3));
            String shown = calls.group(1) + "(" + calls.group(2) + ")";
            Due.due(shown + " has an answer", 1, answer.find() ? 1 : 0);
            Due.due(shown, Long.parseLong(answer.group(1)), got);
            many++;
        }
        Due.due("every call of it was made", code.split("\nx\\.").length - 1, many);
    }

    private static int[] numbers(String told) {
        String[] words = told.isBlank() ? new String[0] : told.split(", *");
        int[] out = new int[words.length];
        for (int i = 0; i < out.length; i++) {
            out[i] = Integer.parseInt(words[i]);
        }
        return out;
    }

    private static void callsNamed(String page) {
        Due.promise("calls");
        for (Method m : EndsWhenRead.class.getDeclaredMethods()) {
            if (Modifier.isPublic(m.getModifiers())) {
                Due.due(m.getName() + " is named", 1, page.contains("`" + m.getName() + "`") ? 1 : 0);
            }
        }
    }

    private static void testsNamed(String page) throws IOException {
        Due.promise("tests");
        try (DirectoryStream<Path> tests = Files.newDirectoryStream(Path.of("src/test/java"), "*Test.java")) {
            for (Path test : tests) {
                String name = test.getFileName().toString().replace(".java", "");
                Due.due(name + " is named", 1, page.contains("- `" + name + "`") ? 1 : 0);
            }
        }
    }
}
