import java.util.Set;

/** Calls by name, what of them is promised to change something, and all that can be seen of an object. */
public final class Calls {
    /** More calls than these no look at an object takes. */
    public static final int SEEN_AT_MOST = 260;
    private static final long FAR = 1000000000L;
    private static final long FARTHEST = 4000000000000000000L;
    private static final Set<String> TELLING = Set.of("letter", "town", "truth", "law", "reads", "hear", "weeks", "row",
            "judge", "image", "on");
    private static final Set<String> ANSWERING_FAR = Set.of("brings", "had", "lots");
    private static final Set<String> ANSWERING_LONG = Set.of("weight", "think", "mean", "chance");

    private Calls() {
    }

    public static long answer(Object on, String name, int... args) throws ReflectiveOperationException {
        Class<?>[] types = new Class<?>[args.length];
        Object[] boxed = new Object[args.length];
        for (int i = 0; i < args.length; i++) {
            types[i] = int.class;
            boxed[i] = args[i];
        }
        return ((Number) on.getClass().getMethod(name, types).invoke(on, boxed)).longValue();
    }

    /** Which REFUSAL an answer is, 1 .. 6; 0 if it is none. */
    public static int refusal(String name, long answer) {
        long why = -answer;
        if (ANSWERING_FAR.contains(name)) {
            why = answer - FAR;
        } else if (ANSWERING_LONG.contains(name)) {
            why = answer - FARTHEST;
        }
        return why >= 1 && why <= 6 ? (int) why : 0;
    }

    /** Whether a call that is not refused may change anything. */
    public static boolean tells(String name) {
        return TELLING.contains(name);
    }

    /** All that can be seen of an object but its REFUSALS; looking changes it, so it is of no use behind that. */
    public static String seen(EndsWhenRead x) {
        StringBuilder text = new StringBuilder();
        for (int what = 0; what < 11; what++) {
            show(text, x.count(what));
        }
        town(text, x);
        heard(text, x);
        show(text, x.judge(0));
        show(text, x.town());
        show(text, x.on());
        for (int what = 0; what < 6; what++) {
            show(text, x.count(what));
        }
        for (int person = 0; person < x.count(0); person++) {
            show(text, x.had(person));
            show(text, x.person(person, 4));
        }
        return text.toString();
    }

    private static void town(StringBuilder text, EndsWhenRead x) {
        for (int person = 0; person < x.count(0); person++) {
            for (int what = 0; what < 5; what++) {
                show(text, x.person(person, what));
            }
            show(text, x.had(person));
        }
        for (int paper = 0; paper < x.count(1); paper++) {
            for (int what = 0; what < 8; what++) {
                show(text, x.paper(paper, what));
            }
            for (int thing = 0; thing < 3; thing++) {
                show(text, x.brings(paper, thing));
            }
            show(text, x.liars(paper));
        }
    }

    private static void heard(StringBuilder text, EndsWhenRead x) {
        for (int person = 0; person < x.count(0); person++) {
            for (int paper = 0; paper < x.count(1); paper++) {
                if ((x.paper(paper, 0) >> person & 1) != 0) {
                    for (int thing = 0; thing < 2; thing++) {
                        show(text, x.weight(person, paper, thing));
                    }
                    show(text, x.hear(person, paper, 0));
                }
            }
        }
    }

    private static void show(StringBuilder text, long answer) {
        text.append(answer).append(' ');
    }
}
