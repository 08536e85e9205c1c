/** The promises of ../shared/DOC.md, 1 to 31, each with answers worked out by hand. */
public final class PromisesTest {
    private static final long FARTHEST = 4000000000000000000L;
    private static final long FAR = 1000000000L;
    private static final int LEAST = Integer.MIN_VALUE;
    private static final int GREATEST = Integer.MAX_VALUE;

    private PromisesTest() {
    }

    public static void main(String[] args) {
        newObject();
        letter();
        townThatStands();
        townBroken();
        townNotAsItMustBe();
        person();
        paper();
        brings();
        truth();
        law();
        lawsByHowManyHaveRead();
        reads();
        hear();
        weight();
        think();
        weeks();
        kindsThatLook();
        kindsThatThink();
        kindsThatGiveAndSay();
        had();
        liars();
        when();
        whenOthersAct();
        mean();
        rests();
        rest();
        ends();
        asks();
        power();
        chance();
        chanceLimits();
        laws();
        lasting();
        lots();
        row();
        judge();
        image();
        on();
        count();
        Due.end();
    }

    private static void due(String call, long want, long got) {
        Due.due(call, want, got);
    }

    private static void refusals(EndsWhenRead x, int... want) {
        for (int why = 1; why <= 6; why++) {
            due("count(1" + why + ")", want[why - 1], x.count(10 + why));
        }
    }

    private static int settled(EndsWhenRead x, String text) {
        Due.letters(x, text);
        return x.town();
    }

    private static void newObject() {
        Due.promise("1 new");
        EndsWhenRead x = new EndsWhenRead();
        int[] want = {0, 0, 0, 0, 0, 50, 0, 0, -9, -9, -9, 0, 0, 0, 0, 0, 0, -9};
        for (int what = 0; what < want.length; what++) {
            due("count(" + what + ")", want[what], x.count(what));
        }
        due("on()", -3, x.on());
    }

    private static void letter() {
        Due.promise("2 letter");
        EndsWhenRead x = new EndsWhenRead();
        due("letter(-1)", -4, x.letter(-1));
        due("letter(least)", -4, x.letter(LEAST));
        due("letter(256)", -6, x.letter(256));
        due("letter(0)", 1, x.letter(0));
        due("letter(255)", 2, x.letter(255));
        for (int i = 3; i <= 64; i++) {
            due("letter(" + i + ")", i, x.letter(i));
        }
        due("letter 65", -6, x.letter(65));
        due("letter 65 below", -4, x.letter(-5));
        due("letter 65 above", -6, x.letter(GREATEST));
        due("count(7)", 64, x.count(7));
        refusals(x, 0, 0, 0, 3, 0, 3);
    }

    private static void townThatStands() {
        Due.promise("3 town");
        EndsWhenRead x = new EndsWhenRead();
        due("pb00;", 1, settled(x, "pb00;"));
        due("letters after", 0, x.count(7));
        due("all sorts", 5, settled(x, "ps999;a01,000,100:049;l4;c100;c007;"));
        due("persons", 2, x.count(0));
        due("papers", 1, x.count(1));
        due("law", 4, x.count(4));
        due("the last TRUTH", 7, x.count(5));
        due("patience of 2 digits", 99, x.person(1, 2));
        due("full of persons", 4, settled(x, "pl00;pt11;pe22;pg33;"));
        due("a paper for all", 1, settled(x, "a012345,1,2:999;"));
        due("one of the last", 1, settled(x, "a5,1,2:999;"));
        due("statements 21", 21, settled(x, "l0;l1;l2;l3;l4;l0;l1;l2;l3;l4;l0;l1;l2;l3;l4;l0;l1;l2;l3;l4;l2;"));
        due("the last law", 2, x.count(4));
        refusals(x, 0, 0, 0, 0, 0, 0);
    }

    private static void townBroken() {
        Due.promise("3 town, kind 1");
        String[] texts = {"", "x", ";", "p", "pz", "pb", "pbx", "pb0", "pb0;", "pb012", "pb0123;", "l", "l;", "l12;",
            "c", "c;", "c1000;", "a", "a;", "a,", "a0", "a0123456,", "a0;", "a0,", "a0,,", "a0,1234,", "a0,1;", "a0,1,",
            "a0,1,1", "a0,1,1;", "a0,1,1:", "a0,1,1:0", "a0,1,1:00;", "a0,1,1:000", "a0,1,1:0000;", "l0;x", "l0;l",
            "l0;;", "l9;x", "P", "pB00;"};
        int[] places = {0, 0, 0, 1, 1, 2, 2, 3, 3, 5, 5, 1, 1, 2,
            1, 1, 4, 1, 1, 1, 2, 7, 2, 3, 3, 6, 4, 5,
            6, 6, 7, 8, 9, 10, 10, 3, 4,
            3, 3, 0, 1};
        EndsWhenRead x = Due.town("pb00;");
        for (int i = 0; i < texts.length; i++) {
            due("town of '" + texts[i] + "'", -1000 - places[i], settled(x, texts[i]));
            due("letters are no more", 0, x.count(7));
        }
        due("sign 255", -1001, settled(x, "p\u00ff00;"));
        due("sign 0", -1000, settled(x, "\0"));
        due("64 letters, the last lacks", -1064, settled(x, "l0;".repeat(20) + "pb00"));
        due("nothing came", 1, x.count(0) + x.count(1) * 10);
        refusals(x, 0, 0, 0, 0, 0, 0);
    }

    private static void townNotAsItMustBe() {
        Due.promise("3 town, kind 2");
        EndsWhenRead x = Due.town("pb00;pb00;");
        due("law 5", -2000, settled(x, "l5;"));
        due("law 9, second", -2003, settled(x, "l4;l9;"));
        due("nothing came of the first", 0, x.count(4));
        due("clerk 101", -2004, settled(x, "c50;c101;"));
        due("clerk 999", -2000, settled(x, "c999;"));
        due("person not there", -2000, settled(x, "a012,1,1:000;"));
        due("person 9", -2000, settled(x, "a9,1,1:000;"));
        due("not there ahead of it", -2000, settled(x, "a2,1,1:000;pb00;"));
        due("there ahead of it", 2, settled(x, "pb00;a2,1,1:000;"));
        due("twice the same", -2000, settled(x, "a00,1,1:000;"));
        due("falling", -2000, settled(x, "a021,1,1:000;"));
        due("hundredths 101 together", -2000, settled(x, "a0,50,51:000;"));
        due("hundredths 101", -2000, settled(x, "a0,101,0:000;"));
        due("hundredths 999", -2000, settled(x, "a0,0,999:000;"));
        due("hundredths 100 together", 1, settled(x, "a0,50,50:000;"));
        due("kind 1 goes ahead of kind 2", -1006, settled(x, "l5;l0;x"));
        due("room for 3 persons", -2015, settled(x, "pb00;pb00;pb00;pb00;"));
        due("none of them came", 3, x.count(0));
        due("3 persons", 3, settled(x, "pb00;pb00;pb00;"));
        due("no room for a person", -2000, settled(x, "pb00;"));
        due("3 papers more", 3, settled(x, "a0,1,1:000;a0,1,1:000;a0,1,1:000;"));
        due("no room for a paper", -2000, settled(x, "a0,1,1:000;"));
        due("5 papers", 5, x.count(1));
        refusals(x, 0, 0, 0, 0, 0, 0);
    }

    private static void person() {
        Due.promise("4 person");
        EndsWhenRead x = Due.town("pb00;pl11;pt22;pe33;pw44;pg55;");
        for (int i = 0; i < 6; i++) {
            due("kind of " + i, i, x.person(i, 0));
            due("bar of " + i, i, x.person(i, 1));
            due("patience of " + i, i, x.person(i, 2));
        }
        due("town of papers", 3, settled(x, "a01,1,1:000;a05,1,1:000;a5,1,1:000;"));
        due("papers of 0", 3, x.person(0, 3));
        due("papers of 1", 1, x.person(1, 3));
        due("papers of 2", 0, x.person(2, 3));
        due("papers of 5", 6, x.person(5, 3));
        x.reads(5, 2);
        x.reads(0, 1);
        due("read by 5", 4, x.person(5, 4));
        due("read by 0", 2, x.person(0, 4));
        due("read by 1", 0, x.person(1, 4));
        due("person(6, 0)", -1, x.person(6, 0));
        due("person(-1, 0)", -1, x.person(-1, 0));
        due("person(6, 9)", -1, x.person(GREATEST, 9));
        due("person(0, 5)", -2, x.person(0, 5));
        due("person(0, -1)", -2, x.person(0, -1));
        refusals(x, 3, 2, 0, 0, 0, 0);
        due("say", 6, Due.town("ps70;").person(0, 0));
    }

    private static void paper() {
        Due.promise("5 paper");
        EndsWhenRead x = Due.town("pb00;pb00;pb00;a02,7,13:000;a1,100,0:000;");
        int[] want = {5, 7, 13, 80, 0, 0, 1, 0};
        for (int what = 0; what < 8; what++) {
            due("paper(0, " + what + ")", want[what], x.paper(0, what));
        }
        due("nothing left", 0, x.paper(1, 3));
        x.truth(0, 2);
        x.weeks(3);
        x.reads(2, 0);
        due("true", 2, x.paper(0, 4));
        due("read", 4, x.paper(0, 5));
        due("lasted", 3, x.paper(0, 7));
        x.reads(0, 0);
        due("in force no more", 0, x.paper(0, 6));
        x.weeks(2);
        due("lasted no more", 3, x.paper(0, 7));
        due("paper 1 lasted", 5, x.paper(1, 7));
        due("paper(2, 0)", -1, x.paper(2, 0));
        due("paper(-1, 0)", -1, x.paper(-1, 9));
        due("paper(0, 8)", -2, x.paper(0, 8));
        due("paper(0, -1)", -2, x.paper(0, -1));
        refusals(x, 2, 2, 0, 0, 0, 0);
    }

    private static void brings() {
        Due.promise("6 brings");
        EndsWhenRead x = Due.town("pb00;a0,1,1:049;a0,1,1:138;");
        due("brings(0, 0)", -4, x.brings(0, 0));
        due("brings(0, 1)", 0, x.brings(0, 1));
        due("brings(0, 2)", 5, x.brings(0, 2));
        due("brings(1, 0)", -3, x.brings(1, 0));
        due("brings(1, 2)", 4, x.brings(1, 2));
        due("brings(2, 0)", FAR + 1, x.brings(2, 0));
        due("brings(-1, 0)", FAR + 1, x.brings(-1, 0));
        due("brings(0, 3)", FAR + 1, x.brings(0, 3));
        due("brings(0, -1)", FAR + 1, x.brings(0, -1));
        refusals(x, 4, 0, 0, 0, 0, 0);
    }

    private static void truth() {
        Due.promise("7 truth");
        EndsWhenRead x = Due.town("pb00;pb00;a01,50,50:049;a0,1,1:000;");
        due("truth(0, 2)", 0, x.truth(0, 2));
        due("truth(0, 2) again", 2, x.truth(0, 2));
        due("truth(0, 1)", 2, x.truth(0, 1));
        due("another paper's", 0, x.truth(1, 1));
        due("truth(2, 0)", -1, x.truth(2, 0));
        due("truth(0, 3)", -1, x.truth(0, 3));
        due("truth(0, -1)", -1, x.truth(0, -1));
        x.reads(1, 0);
        due("read", -3, x.truth(0, 0));
        due("thing ahead of state", -1, x.truth(0, 3));
        due("stays", 1, x.paper(0, 4));
        refusals(x, 4, 0, 1, 0, 0, 0);
    }

    private static void law() {
        Due.promise("8 law");
        EndsWhenRead x = new EndsWhenRead();
        due("law(4)", 0, x.law(4));
        due("law(3)", 4, x.law(3));
        due("law(2)", 3, x.law(2));
        due("law(1)", 2, x.law(1));
        due("law(0)", 1, x.law(0));
        due("law(5)", -2, x.law(5));
        due("law(-1)", -2, x.law(-1));
        due("stays", 0, x.count(4));
        refusals(x, 0, 2, 0, 0, 0, 0);
    }

    private static void lawsByHowManyHaveRead() {
        Due.promise("LAWS");
        // of 0 .. 5 who have read, for each law those with which a paper for five, four, two, one is in force
        int[][] five = {{1, 1, 1, 1, 1, 0}, {1, 0, 0, 0, 0, 0}, {1, 1, 1, 0, 0, 0}, {1, 1, 0, 0, 0, 0},
            {1, 1, 1, 1, 1, 1}};
        int[][] four = {{1, 1, 1, 1, 0}, {1, 0, 0, 0, 0}, {1, 1, 1, 0, 0}, {1, 1, 0, 0, 0}, {1, 1, 1, 1, 1}};
        int[][] two = {{1, 1, 0}, {1, 0, 0}, {1, 1, 0}, {1, 1, 0}, {1, 1, 1}};
        int[][] one = {{1, 0}, {1, 0}, {1, 0}, {1, 0}, {1, 1}};
        forceUnder("a01234,1,1:000;", five);
        forceUnder("a1234,1,1:000;", four);
        forceUnder("a34,1,1:000;", two);
        forceUnder("a3,1,1:000;", one);
    }

    private static void forceUnder(String paper, int[][] want) {
        EndsWhenRead x = Due.town("pb00;pb00;pb00;pb00;pb00;", paper);
        int last = want[0].length - 1;
        for (int read = 0; read <= last; read++) {
            for (int law = 0; law < 5; law++) {
                x.law(law);
                due(paper + " law " + law + ", read by " + read, want[law][read], x.paper(0, 6));
                due("as many in force", want[law][read], x.count(3));
            }
            due("by EVER he may read", Math.min(read + 1, last), readsSomebody(x, read, last));
        }
    }

    private static int readsSomebody(EndsWhenRead x, int read, int last) {
        x.law(4);
        for (int i = 0; i < 5 && read < last; i++) {
            int many = x.reads(i, 0);
            if (many > 0) {
                return many;
            }
        }
        return read;
    }

    private static void reads() {
        Due.promise("9 reads");
        EndsWhenRead x = Due.town("pb00;pb00;pb00;a02,1,1:000;a0,1,1:000;");
        due("reads(3, 0)", -1, x.reads(3, 0));
        due("reads(0, 2)", -1, x.reads(0, 2));
        due("reads(-1, -1)", -1, x.reads(-1, -1));
        due("not bound", -3, x.reads(1, 0));
        due("reads(2, 0)", 1, x.reads(2, 0));
        due("has read", -3, x.reads(2, 0));
        x.law(1);
        due("not in force", -3, x.reads(0, 0));
        x.law(4);
        due("reads(0, 0)", 2, x.reads(0, 0));
        due("another paper", 1, x.reads(0, 1));
        refusals(x, 3, 0, 3, 0, 0, 0);
    }

    private static void hear() {
        Due.promise("10 hear");
        EndsWhenRead x = Due.town("pb00;pb00;pb00;a01,20,30:000;a0,100,0:000;c75;");
        due("hear(0, 0, 2)", 1, x.hear(0, 0, 2));
        // 2 : 3 : 5 by 25, 25, 150
        weights(x, 0, 0, 2, 3, 30);
        weights(x, 1, 0, 2, 3, 5);
        due("hear(0, 0, 0)", 2, x.hear(0, 0, 0));
        weights(x, 0, 0, 4, 1, 10);
        due("hear(0, 0, 0)", 3, x.hear(0, 0, 0));
        weights(x, 0, 0, 24, 1, 10);
        due("a fourth time", -6, x.hear(0, 0, 0));
        weights(x, 0, 0, 24, 1, 10);
        settled(x, "c0;");
        due("lies for sure", 1, x.hear(1, 0, 1));
        weights(x, 1, 0, 2, 0, 5);
        due("all would be 0", 1, x.hear(0, 1, 0));
        weights(x, 0, 1, 1, 0, 0);
        settled(x, "c100;");
        due("true for sure, but it can not be", 2, x.hear(0, 1, 2));
        weights(x, 0, 1, 1, 0, 0);
        due("true for sure", 2, x.hear(1, 0, 2));
        weights(x, 1, 0, 0, 0, 1);
        due("hear(3, 0, 0)", -1, x.hear(3, 0, 0));
        due("hear(0, 2, 0)", -1, x.hear(0, 2, 0));
        due("hear(2, 0, 3)", -1, x.hear(2, 0, 3));
        due("hear(0, 0, -1)", -1, x.hear(0, 0, -1));
        due("not bound", -3, x.hear(2, 0, 0));
        x.reads(0, 0);
        due("read goes ahead of 3 times", -3, x.hear(0, 0, 0));
        x.law(1);
        due("not in force, all the same", 3, x.hear(1, 0, 0));
        refusals(x, 4, 0, 2, 0, 0, 1);
    }

    private static void weights(EndsWhenRead x, int person, int paper, long w0, long w1, long w2) {
        String who = "weight(" + person + ", " + paper + ", ";
        due(who + "0)", w0, x.weight(person, paper, 0));
        due(who + "1)", w1, x.weight(person, paper, 1));
        due(who + "2)", w2, x.weight(person, paper, 2));
    }

    private static void weight() {
        Due.promise("11 weight");
        EndsWhenRead x = Due.town("pb00;pb00;pb00;a01,20,40:000;a0,33,33:000;a1,0,0:000;");
        weights(x, 0, 0, 1, 2, 2);
        weights(x, 0, 1, 33, 33, 34);
        weights(x, 1, 2, 0, 0, 1);
        x.truth(0, 1);
        weights(x, 0, 0, 1, 2, 2);
        x.reads(0, 0);
        weights(x, 0, 0, 0, 1, 0);
        weights(x, 1, 0, 1, 2, 2);
        due("weight(3, 0, 0)", FARTHEST + 1, x.weight(3, 0, 0));
        due("weight(0, 3, 0)", FARTHEST + 1, x.weight(0, 3, 0));
        due("weight(2, 0, 3)", FARTHEST + 1, x.weight(2, 0, 3));
        due("not bound", FARTHEST + 3, x.weight(2, 0, 0));
        refusals(x, 3, 0, 1, 0, 0, 0);
        greatestWeights();
    }

    private static void greatestWeights() {
        EndsWhenRead x = Due.town("pb00;a0,99,1:900;c99;");
        for (int i = 0; i < 3; i++) {
            x.hear(0, 0, 0);
        }
        // 99 * 198 to the third, by 1
        weights(x, 0, 0, 768476808L, 1, 0);
        due("above", 5 * 768476808L - 4, x.think(0, 0, 0));
        due("below", 768476809L, x.think(0, 0, 1));
    }

    private static void thought(EndsWhenRead x, int person, int paper, long above, long below) {
        due("think(" + person + ", " + paper + ", 0)", above, x.think(person, paper, 0));
        due("think(" + person + ", " + paper + ", 1)", below, x.think(person, paper, 1));
    }

    private static void think() {
        Due.promise("12 think");
        EndsWhenRead x = Due.town("pb00;pb00;a0,50,25:086;a0,50,0:008;a0,50,50:129;");
        thought(x, 0, 0, -1, 2);
        thought(x, 0, 1, 0, 1);
        thought(x, 0, 2, -5, 2);
        x.truth(2, 1);
        x.reads(0, 2);
        thought(x, 0, 2, -2, 1);
        due("think(2, 0, 5)", FARTHEST + 1, x.think(2, 0, 5));
        due("think(0, 3, 0)", FARTHEST + 1, x.think(0, 3, 0));
        due("think(1, 0, 2)", FARTHEST + 2, x.think(1, 0, 2));
        due("think(1, 0, -1)", FARTHEST + 2, x.think(1, 0, -1));
        due("think(1, 0, 0)", FARTHEST + 3, x.think(1, 0, 0));
        refusals(x, 2, 2, 1, 0, 0, 0);
    }

    private static void weeks() {
        Due.promise("13 weeks");
        EndsWhenRead x = Due.town("pb00;a0,0,0:005;");
        due("weeks(1)", 1, x.weeks(1));
        due("weeks(99)", 100, x.weeks(99));
        due("weeks(100)", -6, x.weeks(100));
        due("weeks(0)", -4, x.weeks(0));
        due("weeks(least)", -4, x.weeks(LEAST));
        due("lasted", 100, x.paper(0, 7));
        refusals(x, 0, 0, 0, 2, 0, 1);
        due("nobody's weeks", 7, new EndsWhenRead().weeks(7));
    }

    private static void kindsThatLook() {
        Due.promise("13 KINDS b, l, e");
        EndsWhenRead x = Due.town("pb00;pl00;pe02;pe00;a0123,0,0:005;a0,1,1:000;");
        x.weeks(1);
        due("l and e of patience 0", 10, x.paper(0, 5));
        due("b reads nothing", 0, x.person(0, 4));
        x.weeks(1);
        due("week 1 is not 2", 10, x.paper(0, 5));
        x.weeks(1);
        due("week 2 is", 14, x.paper(0, 5));
        x.weeks(9);
        due("b never", 14, x.paper(0, 5));
        due("another paper is not read", 0, x.paper(1, 5));
        EndsWhenRead y = Due.town("pl00;pl00;a01,0,0:005;a01,0,0:005;l1;");
        y.weeks(1);
        due("the first ends it by ANY", 1, y.paper(0, 5));
        due("each paper", 1, y.paper(1, 5));
        due("ended ahead of what it brings", 0, y.paper(0, 7));
        due("nothing had", 0, y.had(1));
    }

    private static void kindsThatThink() {
        Due.promise("13 KINDS t, w");
        // THINK is -1/2: below BAR less 4 from BAR 4 on
        String papers = "a0123,50,50:340;";
        EndsWhenRead x = Due.town("pt30;pt40;pw40;pb00;", papers);
        x.weeks(1);
        due("bar 3 no, bar 4 yes, after yes", 6, x.paper(0, 5));
        EndsWhenRead y = Due.town("pw90;pt40;pw30;pb00;", papers);
        y.weeks(1);
        due("nobody had read ahead of w", 2, y.paper(0, 5));
        y.weeks(1);
        due("a week later", 3, y.paper(0, 5));
        y.weeks(5);
        due("w of bar 3 never", 3, y.paper(0, 5));
        EndsWhenRead z = Due.town("pt00;pt50;a01,50,50:460;");
        z.weeks(3);
        due("THINK 1 is not below 1", 0, z.paper(0, 5));
        settled(z, "c33;");
        z.hear(1, 0, 0);
        z.weeks(1);
        due("a little above 1", 0, z.paper(0, 5));
        settled(z, "c36;");
        z.hear(1, 0, 0);
        z.weeks(1);
        due("a little below", 2, z.paper(0, 5));
    }

    private static void kindsThatGiveAndSay() {
        Due.promise("13 KINDS g, s");
        EndsWhenRead x = Due.town("pb00;pb00;pg00;ps00;pb00;a0234,0,0:005;a2,0,0:005;");
        x.weeks(1);
        due("the next behind him", 8, x.paper(0, 5));
        due("given ahead of his turn he says nothing", 0, x.liars(0));
        x.weeks(1);
        due("then the next", 24, x.paper(0, 5));
        x.weeks(1);
        due("gone round", 25, x.paper(0, 5));
        x.weeks(4);
        due("not himself", 25, x.paper(0, 5));
        due("nobody else is bound", 0, x.paper(1, 5));
        EndsWhenRead y = Due.town("ps00;pg00;a01,0,0:005;");
        y.weeks(1);
        due("said ahead of it, then read", 1, y.paper(0, 5));
        due("no liar now", 0, y.liars(0));
        EndsWhenRead z = Due.town("pg00;pg00;a01,0,0:005;");
        z.weeks(1);
        due("who has been given it gives no more", 2, z.paper(0, 5));
    }

    private static void had() {
        Due.promise("14 had");
        EndsWhenRead x = Due.town("pb00;pb00;pb00;a01,0,0:059;a1,0,0:777;");
        due("at first", 0, x.had(1));
        x.weeks(2);
        due("had(0)", -8, x.had(0));
        due("had(1)", -2, x.had(1));
        due("had(2)", 0, x.had(2));
        x.truth(0, 2);
        x.weeks(1);
        due("had(0) by another TRUE one", -3, x.had(0));
        due("had(3)", FAR + 1, x.had(3));
        due("had(-1)", FAR + 1, x.had(-1));
        refusals(x, 2, 0, 0, 0, 0, 0);
    }

    private static void liars() {
        Due.promise("15 liars");
        EndsWhenRead x = Due.town("ps00;pb00;ps00;ps00;a012,0,0:059;a3,0,0:777;");
        due("at first", 0, x.liars(0));
        x.weeks(1);
        due("liars(0)", 5, x.liars(0));
        due("liars(1)", 8, x.liars(1));
        x.reads(2, 0);
        due("one has read", 1, x.liars(0));
        due("liars(2)", -1, x.liars(2));
        due("liars(-1)", -1, x.liars(-1));
        refusals(x, 2, 0, 0, 0, 0, 0);
        EndsWhenRead y = Due.town("ps00;pb00;a01,0,0:059;l1;");
        y.reads(1, 0);
        y.weeks(2);
        due("not in force, nothing said", 0, y.liars(0));
    }

    private static void when() {
        Due.promise("16 when");
        EndsWhenRead x = Due.town("pl00;pb00;pb00;a0,0,0:001;a01,0,0:009;a0,0,0:004;");
        due("bad: at once", 0, x.when(0, 0, 5));
        due("good: his reading changes nothing", 0, x.when(0, 1, 5));
        due("neither", 0, x.when(0, 2, 20));
        due("when(3, 0, 0)", -1, x.when(3, 0, 0));
        due("when(0, 3, 0)", -1, x.when(0, 3, 0));
        due("when(2, 0, 0)", -4, x.when(2, 0, 0));
        due("when(2, 0, 21)", -6, x.when(2, 0, 21));
        due("not bound", -3, x.when(2, 0, 20));
        x.reads(0, 1);
        due("read", -3, x.when(0, 1, 5));
        refusals(x, 2, 0, 2, 1, 0, 1);
        EndsWhenRead y = Due.town("pl00;pb00;a0,0,0:009;a01,0,0:009;");
        due("alone: never", 5, y.when(0, 0, 5));
        due("never in 20", 20, y.when(0, 0, 20));
        y.law(1);
        due("by ANY: never", 3, y.when(0, 1, 3));
        due("in mind", 0, y.count(2) + y.paper(0, 5) + y.paper(0, 7));
        y.reads(1, 1);
        due("not in force", 0, y.when(0, 1, 3));
    }

    private static void whenOthersAct() {
        Due.promise("16 when, others");
        EndsWhenRead x = Due.town("pg00;pe03;a01,0,0:009;");
        // 1 READS in week 3, which lasts unless 0 has too: as late as can be
        due("e reads in the fourth", 6, x.when(0, 0, 6));
        due("sum", 30, x.mean(0, 0, 6, 0));
        // 0 never READS, so it lasts whatever 1 does
        due("all alike", 0, x.when(1, 0, 6));
        EndsWhenRead y = Due.town("pg00;pb00;a01,0,0:001;");
        // for 1 it is bad; 0 GIVES it to him in week 0 and never reads: it lasts
        due("can not end it", 0, y.when(1, 0, 4));
        due("sum of it", -12, y.mean(1, 0, 4, 0));
        // for 0: in mind he gives nothing, 1 is blind: it lasts all the same
        due("gives nothing", 0, y.when(0, 0, 4));
        due("sum for him", -12, y.mean(0, 0, 4, 0));
        y.law(1);
        due("ends it at once", 0, y.mean(0, 0, 4, 0));
        EndsWhenRead z = Due.town("ps00;pw90;a01,0,0:001;");
        // 1 READS as soon as 0 has: ended at once if 0 READS ahead of week 0
        due("after him", 0, z.when(0, 0, 3));
        due("nothing had", 0, z.mean(0, 0, 3, 0));
        EndsWhenRead v = Due.town("pb00;pw90;a01,0,0:008;");
        // 1 READS as soon as 0 has, for he thinks 4, below 9 less 4
        due("he waits", 3, v.when(0, 0, 3));
        due("all weeks", 12, v.mean(0, 0, 3, 0));
    }

    private static void mean() {
        Due.promise("17 mean");
        EndsWhenRead x = Due.town("pb00;pb00;a0,50,0:509;a01,1,1:116;a0,33,33:408;");
        // (1 + 5) / 2 a week
        due("above", 12, x.mean(0, 0, 4, 0));
        due("below", 1, x.mean(0, 0, 4, 1));
        due("below 0", -3, Due.town("pb00;pb00;a01,50,50:321;").mean(0, 0, 2, 0));
        // (-3 - 3 + 2 * 98) / 100 times 5 weeks
        due("least terms above", 19, x.mean(0, 1, 5, 0));
        due("least terms below", 2, x.mean(0, 1, 5, 1));
        due("mean(2, 0, 0, 9)", FARTHEST + 1, x.mean(2, 0, 0, 9));
        due("mean(0, 3, 1, 0)", FARTHEST + 1, x.mean(0, 3, 1, 0));
        due("mean(1, 0, 0, 2)", FARTHEST + 2, x.mean(1, 0, 0, 2));
        due("mean(1, 0, 0, 0)", FARTHEST + 4, x.mean(1, 0, 0, 0));
        due("mean(1, 0, 21, 0)", FARTHEST + 6, x.mean(1, 0, 21, 0));
        due("mean(1, 0, 20, 0)", FARTHEST + 3, x.mean(1, 0, 20, 0));
        x.reads(0, 0);
        due("read", FARTHEST + 3, x.mean(0, 0, 20, 0));
        refusals(x, 2, 1, 2, 1, 0, 1);
    }

    private static void rests() {
        Due.promise("18 rests");
        EndsWhenRead x = Due.town("pb00;pb00;pb00;a02,0,0:009;a01,0,0:001;a012,0,0:004;");
        // good for both, ended if both read: all but that one
        due("good", 3, x.rests(0));
        // bad for both: none reads (one alone changes nothing), or both; not just one
        due("bad", 2, x.rests(1));
        due("neither", 8, x.rests(2));
        x.law(1);
        due("good by ANY: none reads; or both", 2, x.rests(0));
        due("bad by ANY: somebody", 3, x.rests(1));
        due("rests(3)", -1, x.rests(3));
        due("rests(-1)", -1, x.rests(-1));
        x.reads(0, 0);
        due("not in force: all", 2, x.rests(0));
        x.law(4);
        due("by EVER: all", 4, x.rests(1));
        refusals(x, 2, 0, 0, 0, 0, 0);
    }

    private static void rest() {
        Due.promise("19 rest");
        EndsWhenRead x = Due.town("pb00;pb00;a1,0,0:001;a01,0,0:001;a01,0,0:009;");
        due("the one must read", 2, x.rest(0));
        due("none", 0, x.rest(1));
        x.law(1);
        due("by ANY the first", 1, x.rest(1));
        due("good by ANY", 0, x.rest(2));
        due("rest(3)", -1, x.rest(3));
        due("rest(-1)", -1, x.rest(-1));
        refusals(x, 2, 0, 0, 0, 0, 0);
        EndsWhenRead y = Due.town("pb00;pb00;a01,50,50:491;c100;l1;");
        y.hear(0, 0, 0);
        y.hear(1, 0, 1);
        due("0 thinks 0, 1 thinks 5", 0, y.rest(0));
        due("of 0 and 3, and 1, which 0 would leave for nothing", 3, y.rests(0));
        noRest();
    }

    private static void noRest() {
        EndsWhenRead y = Due.town("pb00;pb00;a01,50,50:091;c100;");
        y.hear(0, 0, 0);
        y.hear(1, 0, 1);
        // 0 thinks -4, 1 thinks 5; ended by both only: 1 reads not, 0 may do as he will
        due("0 bad, 1 good", 2, y.rests(0));
        due("the first", 0, y.rest(0));
        y.law(1);
        // ended by either: 0 reads, 1 may do as he will unless alone
        due("by ANY", 2, y.rests(0));
        due("by ANY the first", 1, y.rest(0));
        EndsWhenRead x = Due.town("pb00;pb00;pb00;a012,50,50:091;c100;l1;");
        x.hear(0, 0, 0);
        x.hear(1, 0, 1);
        x.hear(2, 0, 1);
        due("of three", 1, x.rest(0));
    }

    private static void ends() {
        Due.promise("20 ends");
        EndsWhenRead x = Due.town("pb00;pb00;pb00;pb00;a0123,0,0:009;a2,0,0:001;");
        due("two too few", 0, x.ends(0));
        due("one alone", 4, x.ends(1));
        x.reads(0, 0);
        x.reads(2, 0);
        due("all still", 0, x.ends(0));
        x.law(2);
        due("more than half", 10, x.ends(0));
        x.law(3);
        due("not in force", 0, x.ends(0));
        x.law(0);
        x.reads(3, 0);
        due("the last", 2, x.ends(0));
        x.law(4);
        due("ever", 0, x.ends(0));
        due("ends(2)", -1, x.ends(2));
        due("ends(-1)", -1, x.ends(-1));
        refusals(x, 2, 0, 0, 0, 0, 0);
    }

    private static void asks() {
        Due.promise("21 asks");
        EndsWhenRead x = Due.town("pb00;pb00;pb00;pb00;a012,33,0:005;a12,33,0:984;l1;");
        // 0 : 67 of 100 by 1, 33 by -4: -65/100 each, two others
        due("asks(0, 0, 1)", 1300, x.asks(0, 0, 1));
        due("asks(0, 0, 99)", 128700, x.asks(0, 0, 99));
        due("good for others", 0, x.asks(1, 1, 5));
        due("asks(4, 0, 0)", -1, x.asks(4, 0, 0));
        due("asks(0, 2, 0)", -1, x.asks(0, 2, 0));
        due("asks(3, 0, 0)", -4, x.asks(3, 0, 0));
        due("asks(3, 0, 100)", -6, x.asks(3, 0, 100));
        due("asks(3, 0, 99)", -3, x.asks(3, 0, 99));
        x.law(0);
        due("not among ENDS", 0, x.asks(0, 0, 1));
        x.reads(0, 0);
        x.reads(1, 0);
        // they know now that it brings -4
        due("the last", 16000, x.asks(2, 0, 2));
        due("who has read", 0, x.asks(0, 0, 2));
        refusals(x, 2, 0, 1, 1, 0, 1);
        EndsWhenRead y = Due.town("pb00;pb00;a01,34,33:345;l1;");
        // (-34 + 33) / 100 cut toward 0 in thousandths: -10
        due("in thousandths", 10, y.asks(0, 0, 1));
        EndsWhenRead z = Due.town("pb00;pb00;pb00;a012,50,0:305;c66;l1;");
        z.hear(1, 0, 0);
        // weights 132 : 34, -1 and 1: -98/166 is -590.36
        due("weights of the other", 66, z.weight(1, 0, 0));
        due("cut toward 0, not down", 590, z.asks(0, 0, 1));
        z.hear(2, 0, 2);
        due("each is cut by himself", 0, z.asks(0, 0, 7));
        due("0 and one of them", 590, z.asks(2, 0, 1));
    }

    private static void power() {
        Due.promise("22 power");
        EndsWhenRead x = Due.town("pb00;pb00;pb00;pb00;a0123,0,0:009;a2,0,0:001;");
        for (int law = 0; law < 4; law++) {
            x.law(law);
            due("above by " + law, 1, x.power(1, 0, 0));
            due("below by " + law, 4, x.power(1, 0, 1));
        }
        x.law(4);
        due("above by EVER", 0, x.power(1, 0, 0));
        due("below by EVER", 1, x.power(1, 0, 1));
        x.reads(0, 0);
        x.law(0);
        due("three left", 3, x.power(1, 0, 1));
        due("one alone", 1, x.power(2, 1, 1));
        x.law(1);
        due("not in force above", 0, x.power(1, 0, 0));
        due("not in force below", 1, x.power(1, 0, 1));
        due("power(4, 0, 2)", -1, x.power(4, 0, 2));
        due("power(0, 2, 2)", -1, x.power(0, 2, 2));
        due("power(0, 1, 2)", -2, x.power(0, 1, 2));
        due("power(0, 1, -1)", -2, x.power(0, 1, -1));
        due("not bound", -3, x.power(0, 1, 0));
        due("read", -3, x.power(0, 0, 0));
        refusals(x, 2, 2, 2, 0, 0, 0);
    }

    private static void chance() {
        Due.promise("23 chance");
        EndsWhenRead x = Due.town("pb00;pb00;pb00;a012,0,0:009;a2,0,0:001;");
        fraction(x, 0, 50, 1, 7, 8);
        fraction(x, 0, 50, 2, 37, 64);
        fraction(x, 0, 0, 2, 1, 1);
        fraction(x, 0, 100, 1, 0, 1);
        fraction(x, 0, 100, 0, 1, 1);
        fraction(x, 1, 1, 2, 9801, 10000);
        x.law(1);
        fraction(x, 0, 20, 1, 64, 125);
        x.law(2);
        // none or one of three: 64/125 and 48/125
        fraction(x, 0, 20, 1, 112, 125);
        x.law(3);
        fraction(x, 0, 20, 1, 112, 125);
        x.law(4);
        fraction(x, 0, 100, 2, 1, 1);
        x.law(0);
        x.reads(0, 0);
        fraction(x, 0, 50, 1, 3, 4);
        x.law(1);
        fraction(x, 0, 50, 1, 0, 1);
    }

    private static void fraction(EndsWhenRead x, int paper, int hundredths, int n, long above, long below) {
        String call = "chance(" + paper + ", " + hundredths + ", " + n + ", ";
        due(call + "0)", above, x.chance(paper, hundredths, n, 0));
        due(call + "1)", below, x.chance(paper, hundredths, n, 1));
    }

    private static void chanceLimits() {
        Due.promise("23 chance, limits");
        EndsWhenRead x = Due.town("pb00;pb00;pb00;a012,0,0:009;a2,0,0:001;");
        due("chance(2, ...)", FARTHEST + 1, x.chance(2, -1, -1, 5));
        due("chance(-1, ...)", FARTHEST + 1, x.chance(-1, 0, 0, 0));
        due("part 2", FARTHEST + 2, x.chance(0, -1, -1, 2));
        due("part -1", FARTHEST + 2, x.chance(0, 1, 1, -1));
        due("hundredths -1", FARTHEST + 4, x.chance(0, -1, 9, 0));
        due("n -1", FARTHEST + 4, x.chance(0, 101, -1, 0));
        due("hundredths 101", FARTHEST + 6, x.chance(0, 101, 1, 0));
        due("n 9", FARTHEST + 6, x.chance(1, 1, 9, 0));
        due("n greatest", FARTHEST + 6, x.chance(1, 1, GREATEST, 0));
        due("n 1 << 30", FARTHEST + 6, x.chance(0, 1, 1 << 30, 0));
        due("3 times 3", FARTHEST + 6, x.chance(0, 1, 3, 0));
        x.reads(0, 0);
        due("2 times 4", 1, x.chance(0, 0, 4, 1));
        due("2 times 5", FARTHEST + 6, x.chance(0, 0, 5, 1));
        x.reads(1, 0);
        due("1 times 8", 1, x.chance(0, 0, 8, 1));
        x.reads(2, 0);
        due("0 times 8", 0, x.chance(0, 50, 8, 0));
        due("0 times 9", FARTHEST + 6, x.chance(0, 50, 9, 0));
        refusals(x, 2, 2, 0, 2, 0, 7);
    }

    private static void laws() {
        Due.promise("24 laws");
        EndsWhenRead x = Due.town("pe02;pe05;pe07;pb00;a012,0,0:009;a3,0,0:001;");
        int[] want = {7, 2, 5, 5, 60};
        for (int law = 0; law < 5; law++) {
            due("laws(0, " + law + ", 60)", want[law], x.laws(0, law, 60));
            due("laws(0, " + law + ", 1)", 1, x.laws(0, law, 1));
        }
        due("laws(1, 0, 6)", 6, x.laws(1, 0, 6));
        due("in mind", 0, x.count(2) + x.count(4) + x.paper(0, 5) + x.paper(0, 7) + x.had(0));
        x.weeks(1);
        due("a week later", 1, x.laws(0, 1, 60));
        due("laws(2, 5, 0)", -1, x.laws(2, 5, 0));
        due("laws(0, 5, 0)", -2, x.laws(0, 5, 0));
        due("laws(0, -1, 0)", -2, x.laws(0, -1, 0));
        due("laws(0, 0, 0)", -4, x.laws(0, 0, 0));
        due("laws(0, 0, 61)", -6, x.laws(0, 0, 61));
        refusals(x, 1, 2, 0, 1, 0, 1);
    }

    private static void lasting() {
        Due.promise("25 lasting");
        EndsWhenRead x = Due.town("pe02;pe05;pe07;a012,0,0:009;a1,0,0:001;a02,0,0:001;");
        due("lasting(60)", 0, x.lasting(60));
        due("lasting(1)", 0, x.lasting(1));
        x.law(1);
        due("by ANY", 1, x.lasting(60));
        due("by ANY in 2", 0, x.lasting(2));
        due("lasting(0)", -4, x.lasting(0));
        due("lasting(61)", -6, x.lasting(61));
        refusals(x, 0, 0, 0, 1, 0, 1);
        due("no papers", -9, Due.town("pb00;").lasting(3));
        due("none of them in force", 0, Due.town("pl00;a0,0,0:000;a0,0,0:000;").lasting(3));
        due("in mind", 0, x.count(2));
    }

    private static void lots() {
        Due.promise("26 lots");
        EndsWhenRead x = Due.town("pb00;pb00;a0,0,0:900;");
        // seed 0: 1013904223, by 256 is 3960563: person 1, not bound; then one paper
        due("lots(1, 0)", 5, x.lots(1, 0));
        // seed 1: 1015568748, by 256 is 3967065: person 1
        due("lots(1, 1)", 5, x.lots(1, 1));
        // seed 2: 1017233273, by 256 is 3973567: person 1
        due("lots(1, 2)", 5, x.lots(1, 2));
        due("lots(1, 256)", lotsOfOne(256), x.lots(1, 256));
        for (int z = -50; z < 50; z++) {
            due("lots(1, " + z + ")", lotsOfOne(z), x.lots(1, z));
        }
        due("in mind", 0, x.count(2) + x.had(0) + x.paper(0, 5));
        due("lots(0, 0)", FAR + 4, x.lots(0, 0));
        due("lots(61, 0)", FAR + 6, x.lots(61, 0));
        refusals(x, 0, 0, 0, 1, 0, 1);
        EndsWhenRead none = new EndsWhenRead();
        due("nobody", FAR + 3, none.lots(60, 0));
        due("nobody, below", FAR + 4, none.lots(0, 0));
        due("nobody, above", FAR + 6, none.lots(61, 0));
        due("no papers", FAR + 3, Due.town("pb00;").lots(1, 0));
    }

    private static long lotsOfOne(int z) {
        int first = z * 1664525 + 1013904223;
        return (first & 0x7fffffff) / 256 % 2 == 0 ? 0 : 5;
    }

    private static void row() {
        Due.promise("27 row");
        EndsWhenRead x = new EndsWhenRead();
        due("row(-1)", -4, x.row(-1));
        due("row(10)", -6, x.row(10));
        for (int i = 0; i < 12; i++) {
            due("row(" + i % 10 + ")", i + 1, x.row(i % 10));
        }
        due("a 13th", -6, x.row(0));
        due("a 13th below", -4, x.row(-1));
        due("count(6)", 12, x.count(6));
        due("judge(0)", -1, x.judge(0));
        due("it stays", 12, x.count(6));
        refusals(x, 1, 0, 0, 2, 0, 2);
    }

    private static int judged(EndsWhenRead x, int paper, int... row) {
        for (int v : row) {
            x.row(v);
        }
        return x.judge(paper);
    }

    private static void judge() {
        Due.promise("28 judge");
        EndsWhenRead x = Due.town("pb00;pb00;pe03;pb00;a012,0,0:009;a0,0,0:001;");
        due("none told", -9, judged(x, 0));
        due("all can", -9, judged(x, 0, 1, 2, 0));
        due("none are left", 0, x.count(6));
        due("9 is none", -9, judged(x, 0, 9, 9, 1, 9, 0));
        due("not bound", 1, judged(x, 0, 0, 3));
        due("none are left then", 0, x.count(6));
        due("no such person", 0, judged(x, 0, 8, 3));
        due("read", 2, judged(x, 0, 0, 9, 0));
        due("e has read by himself", 4, judged(x, 0, 9, 9, 9, 9, 2));
        due("ahead of the week he can", -9, judged(x, 0, 9, 9, 9, 2));
        due("not in force", 1, judged(x, 1, 0, 0));
        x.law(3);
        due("by TWO no third", 2, judged(x, 0, 0, 1, 2));
        due("in mind", 0, x.count(2) + x.paper(0, 5));
        x.reads(0, 0);
        due("had read ahead of it", 0, judged(x, 0, 0));
        x.row(0);
        due("judge(2)", -1, x.judge(2));
        due("judge(-1)", -1, x.judge(-1));
        due("it stays", 1, x.count(6));
        refusals(x, 2, 0, 0, 0, 0, 0);
    }

    private static void image() {
        Due.promise("29 image");
        EndsWhenRead x = new EndsWhenRead();
        due("nobody's", 0, x.image());
        x.weeks(4);
        due("image()", 4, x.image());
        x.weeks(4);
        due("on()", 4, x.on());
        refusals(x, 0, 0, 0, 0, 0, 0);
    }

    private static void on() {
        Due.promise("30 on");
        EndsWhenRead x = Due.town("pb00;ps00;pb00;a01,50,30:379;c70;");
        due("none yet", -3, x.on());
        x.truth(0, 1);
        x.hear(0, 0, 0);
        x.weeks(2);
        x.reads(0, 0);
        x.image();
        settled(x, "pl00;a3,1,1:000;l4;c3;");
        x.hear(1, 0, 2);
        x.weeks(3);
        x.reads(1, 0);
        x.row(1);
        x.letter('p');
        x.law(2);
        due("on()", 2, x.on());
        int[] counts = {3, 1, 2, 1, 0, 70, 1, 1};
        for (int what = 0; what < 8; what++) {
            due("count(" + what + ")", counts[what], x.count(what));
        }
        int[] facts = {3, 50, 30, 20, 1, 1, 1, 2};
        for (int what = 0; what < 8; what++) {
            due("paper(0, " + what + ")", facts[what], x.paper(0, what));
        }
        weights(x, 1, 0, 5, 3, 2);
        due("who said", 2, x.liars(0));
        due("had", 6, x.had(1));
        due("kind", 6, x.person(1, 0));
        due("heard is as then", 1, x.hear(1, 0, 0));
        due("the row is no part of it", 0, x.judge(0) + 9);
        x.weeks(1);
        due("on() again", 2, x.on());
        due("once more heard", 1, x.hear(1, 0, 0));
        due("letters stay ahead of the image", -1001, settled(x, "pl00;"));
        due("and become a town", 1, settled(x, "pl00;"));
        due("a person more", 4, x.count(0));
        refusals(x, 0, 0, 1, 0, 0, 0);
    }

    private static void count() {
        Due.promise("31 count");
        EndsWhenRead x = Due.town("pb00;pb00;a0,0,0:000;a01,0,0:000;l3;c9;");
        x.reads(0, 0);
        x.weeks(5);
        x.row(9);
        x.row(3);
        x.letter('x');
        int[] want = {2, 2, 5, 1, 3, 9, 2, 1, -9, -9, -9};
        for (int what = 0; what < want.length; what++) {
            due("count(" + what + ")", want[what], x.count(what));
        }
        due("count(17)", -9, x.count(17));
        due("count(-1)", -9, x.count(-1));
        due("count(least)", -9, x.count(LEAST));
        due("count(greatest)", -9, x.count(GREATEST));
        x.had(7);
        x.think(0, 0, 7);
        x.on();
        x.weeks(0);
        x.row(99);
        x.town();
        refusals(x, 1, 1, 1, 1, 0, 1);
    }
}
