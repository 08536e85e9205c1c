import java.lang.reflect.Method;
import java.lang.reflect.Modifier;

/** Every call with every number at and about a limit, beside the Model's answer, in towns of several states. */
public final class EdgesTest {
    private static final int[] ONE = {Integer.MIN_VALUE, -257, -100, -10, -9, -2, -1, 0, 1, 2, 3, 4, 5, 6, 7, 8, 9, 10,
        11, 12, 13, 14, 15, 16, 17, 19, 20, 21, 22, 59, 60, 61, 62, 63, 64, 98, 99, 100, 101, 127, 128, 255, 256, 257,
        1 << 30, Integer.MAX_VALUE};
    private static final int[] TWO = {Integer.MIN_VALUE, -1, 0, 1, 2, 3, 4, 5, 6, 7, 8, 60, 61, 100, Integer.MAX_VALUE};
    private static final int[] MORE = {Integer.MIN_VALUE, -1, 0, 1, 2, 3, 4, 5, 6, 8, 9, 20, 21, 60, 61, 99, 100, 101,
        Integer.MAX_VALUE};
    private static final int[] FOUR = {Integer.MIN_VALUE, -1, 0, 1, 2, 4, 8, 9, 20, 21, 100, 101, Integer.MAX_VALUE};
    private static final String[][] TOWNS = {
        {},
        {"pl00;pt52;"},
        {"pb00;pl00;pt40;pe03;pw90;pg00;", "a012345,50,30:196;a02,0,0:444;a2,100,0:000;"},
        {"ps90;pg02;pe05;pw80;", "a013,20,40:083;a0123,33,33:950;a3,0,100:123;l2;c80;"},
        {"pe04;pe02;pe09;pe01;ps00;pb00;", "a12345,10,20:057;a0,5,5:902;a45,50,0:128;l3;",
            "a01,1,2:345;a5,0,0:000;c0;"}};

    private EdgesTest() {
    }

    public static void main(String[] args) throws Exception {
        for (int t = 0; t < TOWNS.length; t++) {
            for (int weeks = 0; weeks < 2; weeks++) {
                for (Method m : EndsWhenRead.class.getDeclaredMethods()) {
                    if (Modifier.isPublic(m.getModifiers())) {
                        all(m, TOWNS[t], weeks);
                    }
                }
            }
        }
        Due.end();
    }

    private static void all(Method m, String[] texts, int weeks) throws Exception {
        Method twin = Model.class.getMethod(m.getName(), m.getParameterTypes());
        int[][] values = {new int[] {0}, ONE, TWO, MORE, FOUR};
        int many = m.getParameterCount();
        int[] from = values[many];
        int combinations = 1;
        for (int i = 0; i < many; i++) {
            combinations *= from.length;
        }
        EndsWhenRead x = null;
        Model y = null;
        for (int c = 0; c < combinations; c++) {
            if (c % 300 == 0) {
                x = new EndsWhenRead();
                y = new Model();
                prepare(x, y, texts, weeks);
            }
            Object[] boxed = new Object[many];
            StringBuilder shown = new StringBuilder(m.getName());
            for (int i = 0, rest = c; i < many; i++, rest /= from.length) {
                boxed[i] = from[rest % from.length];
                shown.append(' ').append(boxed[i]);
            }
            long want = ((Number) twin.invoke(y, boxed)).longValue();
            Due.due(shown.toString(), want, ((Number) m.invoke(x, boxed)).longValue());
            if (c % 300 == 299 || c == combinations - 1) {
                for (int what = 0; what <= 16; what++) {
                    Due.due(m.getName() + ", then count(" + what + ")", y.count(what), x.count(what));
                }
            }
        }
    }

    private static void prepare(EndsWhenRead x, Model y, String[] texts, int weeks) {
        for (String text : texts) {
            for (char c : text.toCharArray()) {
                x.letter(c);
                y.letter(c);
            }
            Due.due("town()", y.town(), x.town());
        }
        if (weeks > 0) {
            for (int i = 0; i < 3; i++) {
                Due.due("hear", y.hear(i, 0, 2 - i), x.hear(i, 0, 2 - i));
            }
            Due.due("weeks", y.weeks(weeks), x.weeks(weeks));
            Due.due("reads", y.reads(3, 1), x.reads(3, 1));
        }
    }
}
