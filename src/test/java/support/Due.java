import java.util.ArrayList;
import java.util.List;

/** Counts the answers that are not the ones that are due, and ends the test by them. */
public final class Due {
    private static int wrong = 0;
    private static int looked = 0;
    private static final List<String> HEADS = new ArrayList<>();

    private Due() {
    }

    public static void promise(String head) {
        HEADS.add(head);
    }

    public static void due(String call, long want, long got) {
        looked++;
        if (want != got) {
            wrong++;
            String head = HEADS.isEmpty() ? "" : HEADS.get(HEADS.size() - 1) + ": ";
            if (wrong <= 40) {
                System.out.println(head + call + " answered " + got + ", due is " + want);
            }
        }
    }

    public static boolean anyWrong() {
        return wrong > 0;
    }

    /** Tells letters one by one. */
    public static void letters(EndsWhenRead x, String text) {
        for (char c : text.toCharArray()) {
            x.letter(c);
        }
    }

    /** A new object with the towns told, each of which must stand. */
    public static EndsWhenRead town(String... texts) {
        EndsWhenRead x = new EndsWhenRead();
        for (String text : texts) {
            letters(x, text);
            int many = x.town();
            due("town() of " + text, text.chars().filter(c -> c == ';').count(), many);
        }
        return x;
    }

    public static void end() {
        System.out.println(looked + " answers looked at, " + wrong + " not as due");
        if (wrong > 0 || looked == 0) {
            System.exit(1);
        }
    }
}
