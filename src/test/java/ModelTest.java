import java.lang.reflect.Method;
import java.lang.reflect.Modifier;
import java.util.ArrayList;
import java.util.List;
import java.util.Random;

/** Runs of calls by fixed seeds, each call's answer looked at beside the Model's. */
public final class ModelTest {
    private static final int RUNS = 900;
    private static final int CALLS = 512;

    private final Random random;
    private final EndsWhenRead program = new EndsWhenRead();
    private final Model model = new Model();
    private final List<String> told = new ArrayList<>();
    private final int persons;
    private int calls = 0;
    private boolean differs = false;

    private ModelTest(long seed) {
        random = new Random(seed);
        persons = 1 + random.nextInt(6);
    }

    public static void main(String[] args) throws Exception {
        List<Method> face = new ArrayList<>();
        for (Method m : EndsWhenRead.class.getDeclaredMethods()) {
            if (Modifier.isPublic(m.getModifiers())) {
                face.add(m);
            }
        }
        face.sort((a, b) -> a.getName().compareTo(b.getName()));
        for (int run = 0; run < RUNS && !Due.anyWrong(); run++) {
            new ModelTest(run).run(face);
        }
        Due.end();
    }

    private void run(List<Method> face) throws Exception {
        if (random.nextInt(10) > 0) {
            tell(people());
            tell(papers());
        }
        while (calls < CALLS && !differs) {
            int dice = random.nextInt(100);
            if (dice < 4) {
                tell(random.nextBoolean() ? papers() : broken());
            } else if (dice < 7) {
                tellRow();
            } else {
                Method m = face.get(random.nextInt(face.size()));
                if (!m.getName().equals("letter") || random.nextInt(5) == 0) {
                    call(m.getName(), arguments(m));
                }
            }
        }
        while (calls < CALLS && !differs) {
            call("count", random.nextInt(20));
        }
    }

    private String people() {
        StringBuilder text = new StringBuilder();
        for (int i = 0; i < persons; i++) {
            text.append('p').append("bltewgs".charAt(random.nextInt(7)));
            text.append(random.nextInt(10)).append(random.nextInt(random.nextBoolean() ? 10 : 30)).append(';');
        }
        return text.toString();
    }

    private String papers() {
        StringBuilder text = new StringBuilder();
        for (int i = random.nextInt(3); i >= 0; i--) {
            text.append(paperText());
        }
        if (random.nextInt(4) == 0) {
            text.append('l').append(random.nextInt(5)).append(';');
        }
        if (random.nextInt(4) == 0) {
            int[] often = {0, 100, 50, 80, 33};
            text.append('c').append(random.nextBoolean() ? often[random.nextInt(5)] : random.nextInt(101)).append(';');
        }
        return text.toString();
    }

    private String paperText() {
        StringBuilder text = new StringBuilder("a");
        int must = random.nextInt(persons);
        for (int i = 0; i < persons; i++) {
            if (i == must || random.nextInt(3) > 0) {
                text.append(i);
            }
        }
        int c0 = random.nextInt(5) == 0 ? 100 : random.nextInt(101);
        int c1 = random.nextInt(101 - c0);
        text.append(',').append(c0).append(',').append(c1).append(':');
        for (int thing = 0; thing < 3; thing++) {
            text.append(random.nextInt(10));
        }
        return text.append(';').toString();
    }

    /** A town in which a letter is another, lacks or is one more; or one out of range. */
    private String broken() {
        StringBuilder text = new StringBuilder(random.nextBoolean() ? papers() : people() + papers());
        String signs = "palc0123456789,:;bltewgsx";
        for (int i = random.nextInt(3); i >= 0 && text.length() > 0; i--) {
            int place = random.nextInt(text.length());
            char sign = signs.charAt(random.nextInt(signs.length()));
            switch (random.nextInt(4)) {
                case 0: text.setCharAt(place, sign); break;
                case 1: text.deleteCharAt(place); break;
                case 2: text.insert(place, sign); break;
                default: text.setCharAt(place, (char) ('0' + random.nextInt(10))); break;
            }
        }
        return text.substring(0, Math.min(text.length(), 64));
    }

    private void tell(String text) throws Exception {
        if (calls + text.length() < CALLS) {
            for (char c : text.toCharArray()) {
                call("letter", c);
            }
            call("town");
        }
    }

    private void tellRow() throws Exception {
        for (int i = random.nextInt(8); i > 0; i--) {
            call("row", random.nextInt(3) > 0 ? 9 : random.nextInt(persons));
        }
        call("judge", random.nextInt(3));
    }

    private int[] arguments(Method m) {
        int[] out = new int[m.getParameterCount()];
        String name = m.getName();
        for (int i = 0; i < out.length; i++) {
            out[i] = random.nextInt(persons + (random.nextInt(8) == 0 ? 2 : 0)) - (random.nextInt(25) == 0 ? 1 : 0);
            if (random.nextInt(200) == 0) {
                int[] far = {Integer.MIN_VALUE, Integer.MAX_VALUE, -1, 99, 100, 60, 61, 20, 21, 1 << 30, 255, 256};
                out[i] = far[random.nextInt(far.length)];
            }
        }
        boolean plain = random.nextInt(12) > 0;
        if (plain) {
            soften(name, out);
        }
        return out;
    }

    /** Puts numbers where the call mostly wants them. */
    private void soften(String name, int[] a) {
        switch (name) {
            case "letter": a[0] = random.nextInt(258) - 1; break;
            case "person": a[1] = random.nextInt(5); break;
            case "paper": a[1] = random.nextInt(8); break;
            case "brings": case "truth": a[1] = random.nextInt(3); break;
            case "hear": case "weight": a[2] = random.nextInt(3); break;
            case "weeks": a[0] = random.nextInt(40) == 0 ? random.nextInt(101) : 1 + random.nextInt(2); break;
            case "when": a[2] = random.nextInt(15) == 0 ? 20 + random.nextInt(2) : 1 + random.nextInt(8); break;
            case "mean": a[2] = random.nextInt(15) == 0 ? 20 : 1 + random.nextInt(8); a[3] = random.nextInt(2); break;
            case "asks": a[2] = random.nextInt(101); break;
            case "think": case "power": a[2] = random.nextInt(2); break;
            case "chance": a[1] = random.nextInt(102); a[2] = random.nextInt(10); a[3] = random.nextInt(2); break;
            case "laws": a[1] = random.nextInt(5); a[2] = random.nextInt(15) == 0 ? 60 : 1 + random.nextInt(20); break;
            case "lasting": a[0] = random.nextInt(15) == 0 ? 60 : 1 + random.nextInt(20); break;
            case "lots": a[0] = random.nextInt(62); a[1] = random.nextInt(); break;
            case "count": a[0] = random.nextInt(20) - 1; break;
            default: break;
        }
    }

    private void call(String name, int... args) throws Exception {
        if (calls >= CALLS || differs) {
            return;
        }
        calls++;
        long want = Calls.answer(model, name, args);
        long got = Calls.answer(program, name, args);
        StringBuilder shown = new StringBuilder(name).append('(');
        for (int i = 0; i < args.length; i++) {
            shown.append(i == 0 ? "" : ", ").append(args[i]);
        }
        told.add(shown.append(')').toString());
        Due.due(shown.toString(), want, got);
        if (want != got) {
            differs = true;
            System.out.println("behind " + String.join(" ", told));
        }
    }
}
