import java.lang.reflect.Constructor;
import java.lang.reflect.Field;
import java.lang.reflect.Method;
import java.lang.reflect.Modifier;
import java.nio.file.Files;
import java.nio.file.Path;
import java.util.ArrayList;
import java.util.HashMap;
import java.util.List;
import java.util.Map;
import java.util.TreeSet;
import java.util.regex.Matcher;
import java.util.regex.Pattern;

/** The public face as the document writes it, and what of ../shared/LANGUAGE.md can be seen from outside. */
public final class FaceTest {
    private static final String FACE = "int letter(int);int town();int person(int,int);int paper(int,int);"
            + "int brings(int,int);int truth(int,int);int law(int);int reads(int,int);int hear(int,int,int);"
            + "long weight(int,int,int);long think(int,int,int);int weeks(int);int had(int);int liars(int);"
            + "int when(int,int,int);long mean(int,int,int,int);int rests(int);int rest(int);int ends(int);"
            + "int asks(int,int,int);int power(int,int,int);long chance(int,int,int,int);int laws(int,int,int);"
            + "int lasting(int);int lots(int,int);int row(int);int judge(int);int image();int on();int count(int)";
    private static final String[] FORBIDDEN = {"throw", "try", "catch", "synchronized", "assert", "import", "package",
        "->", "::", "Exact", "Random", "System.out", "nanoTime", "currentTime", "hashCode", "toString", "equals",
        "float", "double", "Object", "native", "volatile", "String.format"};

    private FaceTest() {
    }

    public static void main(String[] args) throws Exception {
        face();
        members();
        source();
        depth();
        Due.end();
    }

    private static void face() {
        Due.promise("the public face");
        Due.due("final and public", 1, Modifier.isFinal(EndsWhenRead.class.getModifiers())
                && Modifier.isPublic(EndsWhenRead.class.getModifiers()) ? 1 : 0);
        TreeSet<String> want = new TreeSet<>(List.of(FACE.split(";")));
        TreeSet<String> got = new TreeSet<>();
        for (Method m : EndsWhenRead.class.getDeclaredMethods()) {
            if (!Modifier.isPrivate(m.getModifiers())) {
                StringBuilder text = new StringBuilder(m.getReturnType().getName()).append(' ').append(m.getName());
                List<String> types = new ArrayList<>();
                for (Class<?> type : m.getParameterTypes()) {
                    types.add(type.getName());
                }
                got.add(text.append('(').append(String.join(",", types)).append(')').toString());
                Due.due(m.getName() + " public", 1, Modifier.isPublic(m.getModifiers()) ? 1 : 0);
            }
        }
        Due.due("methods " + want + " but " + got, 1, want.equals(got) ? 1 : 0);
        Constructor<?>[] makers = EndsWhenRead.class.getDeclaredConstructors();
        Due.due("one constructor", 1, makers.length);
        Due.due("without parameters", 0, makers[0].getParameterCount());
        Due.due("public", 1, Modifier.isPublic(makers[0].getModifiers()) ? 1 : 0);
    }

    private static void members() {
        Due.promise("LANGUAGE.md 1, 2, 5, 11");
        TreeSet<String> names = new TreeSet<>();
        for (Method m : EndsWhenRead.class.getDeclaredMethods()) {
            if (Modifier.isPublic(m.getModifiers())) {
                names.add(m.getName());
            }
        }
        List<Class<?>> classes = new ArrayList<>(List.of(EndsWhenRead.class.getDeclaredClasses()));
        Due.due("at most 12 classes", 1, classes.size() <= 11 ? 1 : 0);
        classes.add(EndsWhenRead.class);
        for (Class<?> c : classes) {
            boolean inside = c != EndsWhenRead.class;
            Due.due(c + " static", inside ? 1 : 0, Modifier.isStatic(c.getModifiers()) ? 1 : 0);
            Due.due(c + " shut", inside ? 0 : 1, Modifier.isPublic(c.getModifiers()) ? 1 : 0);
            int own = 0;
            for (Field f : c.getDeclaredFields()) {
                int how = f.getModifiers();
                own += Modifier.isStatic(how) ? 0 : 1;
                Due.due(f + " private", 1, Modifier.isPrivate(how) ? 1 : 0);
                Due.due(f + " final if static", 1, !Modifier.isStatic(how) || Modifier.isFinal(how) ? 1 : 0);
            }
            Due.due(c + " fields", 1, own <= 20 ? 1 : 0);
            for (Method m : c.getDeclaredMethods()) {
                Due.due(m + " parameters", 1, m.getParameterCount() <= 7 ? 1 : 0);
                boolean outer = !inside && Modifier.isPublic(m.getModifiers());
                Due.due(m + " bears a public name", outer ? 1 : 0, names.contains(m.getName()) ? 1 : 0);
            }
        }
    }

    private static String code() throws Exception {
        String text = Files.readString(Path.of("src/main/java/EndsWhenRead.java"));
        for (char c : text.toCharArray()) {
            if (c > 127) {
                Due.due("sign " + (int) c, 0, 1);
            }
        }
        return text.replaceAll("(?s)/\\*.*?\\*/", "").replaceAll("//[^\n]*", "");
    }

    private static void source() throws Exception {
        Due.promise("LANGUAGE.md 3, 4, 6, 13");
        String code = code();
        for (String word : FORBIDDEN) {
            Pattern p = Pattern.compile(word.matches("[A-Za-z]+") ? "\\b" + word + "\\b" : Pattern.quote(word));
            Due.due("the word " + word, 0, p.matcher(code).find() ? 1 : 0);
        }
        Matcher library = Pattern.compile("\\b(System|Math|Integer|Long|Arrays)\\.([A-Za-z]+)").matcher(code);
        List<String> allowed = List.of("System.arraycopy", "Math.abs", "Math.min", "Math.max", "Integer.bitCount");
        while (library.find()) {
            Due.due("the library's " + library.group(), 1, allowed.contains(library.group()) ? 1 : 0);
        }
    }

    /** Rule 11: calls go at most eight deep; rule 8: none calls itself. "become" is left out: two classes have one. */
    private static void depth() throws Exception {
        Due.promise("LANGUAGE.md 8, 11");
        String code = code().replaceAll("'[^']*'", "0").replaceAll("\"[^\"]*\"", "0");
        String head = "(?m)^( {4,8})(?:[a-z]+ )*(?:int|long|boolean|void) ([a-zA-Z]+)\\([^)]*\\) \\{$";
        Matcher heads = Pattern.compile(head).matcher(code);
        Map<String, String> bodies = new HashMap<>();
        while (heads.find()) {
            int end = code.indexOf("\n" + heads.group(1) + "}\n", heads.end());
            String body = code.substring(heads.end(), end);
            Due.due(heads.group(2) + " has lines", 1, body.split("\n").length <= 60 ? 1 : 0);
            bodies.merge(heads.group(2), body, (one, other) -> one + other);
        }
        Due.due("methods found", 1, bodies.size() > 90 ? 1 : 0);
        for (String name : bodies.keySet()) {
            int deep = deepness(name, bodies, 0);
            Due.due(name + " goes " + deep + " deep", 1, deep <= 8 ? 1 : 0);
        }
        Due.due("when goes through a week and a thought", 8, deepness("when", bodies, 0));
    }

    private static int deepness(String name, Map<String, String> bodies, int above) {
        int deepest = 0;
        if (above > 12) {
            return 100;
        }
        Matcher calls = Pattern.compile("(?:([A-Za-z]+)\\.)?\\b([a-zA-Z]+)\\(").matcher(bodies.get(name));
        while (calls.find()) {
            boolean own = bodies.containsKey(calls.group(2)) && !"Math".equals(calls.group(1));
            boolean sharedName = calls.group(2).equals("become");
            if (own && !sharedName) {
                deepest = Math.max(deepest, deepness(calls.group(2), bodies, above + 1));
            }
        }
        return deepest + 1;
    }
}
