import java.math.BigInteger;
import java.util.ArrayList;
import java.util.List;
import java.util.Map;
import java.util.SortedSet;
import java.util.TreeMap;
import java.util.TreeSet;
import java.util.regex.Matcher;
import java.util.regex.Pattern;

/**
 * The document told once more, the long way round: by regular expressions, by every order, by every pattern of
 * looks, by every THING that could be TRUE. It shares no code and no short cut with EndsWhenRead.
 */
public final class Model {
    private static final String STATEMENT =
            "p[bltewgs][0-9][0-9]{1,2};|a[0-9]{1,6},[0-9]{1,3},[0-9]{1,3}:[0-9]{3};|l[0-9];|c[0-9]{1,3};";
    private static final Pattern TEXT = Pattern.compile("(?:" + STATEMENT + ")+");
    private static final Pattern ONE = Pattern.compile(STATEMENT);

    static final class Fraction implements Comparable<Fraction> {
        final BigInteger above;
        final BigInteger below;

        Fraction(BigInteger a, BigInteger b) {
            BigInteger g = a.gcd(b);
            if (b.signum() < 0) {
                g = g.negate();
            }
            above = a.divide(g);
            below = b.divide(g);
        }

        static Fraction of(long a, long b) {
            return new Fraction(BigInteger.valueOf(a), BigInteger.valueOf(b));
        }

        Fraction plus(Fraction o) {
            return new Fraction(above.multiply(o.below).add(o.above.multiply(below)), below.multiply(o.below));
        }

        Fraction times(Fraction o) {
            return new Fraction(above.multiply(o.above), below.multiply(o.below));
        }

        public int compareTo(Fraction o) {
            return above.multiply(o.below).compareTo(o.above.multiply(below));
        }

        long part(int part) {
            return (part == 0 ? above : below).longValueExact();
        }
    }

    static final class Person {
        char kind;
        int bar;
        int patience;
        int had;

        Person copy() {
            Person p = new Person();
            p.kind = kind;
            p.bar = bar;
            p.patience = patience;
            p.had = had;
            return p;
        }
    }

    static final class Paper {
        SortedSet<Integer> bound = new TreeSet<>();
        SortedSet<Integer> read = new TreeSet<>();
        SortedSet<Integer> said = new TreeSet<>();
        int[] hundredths = new int[3];
        int[] gain = new int[3];
        int truth = 0;
        int lasted = 0;
        Map<Integer, List<Integer>> weights = new TreeMap<>();
        Map<Integer, Integer> heard = new TreeMap<>();

        Paper copy() {
            Paper p = new Paper();
            p.bound = new TreeSet<>(bound);
            p.read = new TreeSet<>(read);
            p.said = new TreeSet<>(said);
            p.hundredths = hundredths.clone();
            p.gain = gain.clone();
            p.truth = truth;
            p.lasted = lasted;
            p.weights = new TreeMap<>(weights);
            p.heard = new TreeMap<>(heard);
            return p;
        }

        SortedSet<Integer> unread() {
            SortedSet<Integer> left = new TreeSet<>(bound);
            left.removeAll(read);
            return left;
        }

        List<Integer> weightsOf(int person) {
            if (read.contains(person)) {
                return List.of(truth == 0 ? 1 : 0, truth == 1 ? 1 : 0, truth == 2 ? 1 : 0);
            }
            return weights.get(person);
        }

        Fraction think(int person) {
            List<Integer> w = weightsOf(person);
            Fraction sum = Fraction.of(0, 1);
            long all = (long) w.get(0) + w.get(1) + w.get(2);
            for (int t = 0; t < 3; t++) {
                sum = sum.plus(Fraction.of((long) w.get(t) * gain[t], all));
            }
            return sum;
        }
    }

    static final class World {
        List<Person> persons = new ArrayList<>();
        List<Paper> papers = new ArrayList<>();
        int law = 0;
        int clerk = 50;
        int week = 0;

        World copy() {
            World w = new World();
            for (Person p : persons) {
                w.persons.add(p.copy());
            }
            for (Paper p : papers) {
                w.papers.add(p.copy());
            }
            w.law = law;
            w.clerk = clerk;
            w.week = week;
            return w;
        }

        boolean stands(Paper p) {
            int all = p.bound.size();
            int have = p.read.size();
            switch (law) {
                case 0: return have != all;
                case 1: return have == 0;
                case 2: return !(have > all / 2.0);
                case 3: return all == 1 ? have == 0 : have == 0 || have == 1;
                default: return true;
            }
        }

        /** The person "idle" does nothing for the paper "spared". */
        void week(int idle, int spared) {
            for (int i = 0; i < persons.size(); i++) {
                for (int j = 0; j < papers.size(); j++) {
                    Paper p = papers.get(j);
                    boolean sits = i == idle && j == spared;
                    if (!sits && p.bound.contains(i) && stands(p) && !p.read.contains(i)) {
                        turn(i, persons.get(i), p);
                    }
                }
            }
            for (Paper p : papers) {
                if (stands(p)) {
                    for (int i : p.bound) {
                        persons.get(i).had += p.gain[p.truth];
                    }
                    p.lasted++;
                }
            }
            week++;
        }

        void turn(int i, Person he, Paper p) {
            boolean below = p.think(i).compareTo(Fraction.of(he.bar - 4, 1)) < 0;
            switch (he.kind) {
                case 'l':
                    p.read.add(i);
                    break;
                case 't':
                    if (below) {
                        p.read.add(i);
                    }
                    break;
                case 'e':
                    if (week >= he.patience) {
                        p.read.add(i);
                    }
                    break;
                case 'w':
                    if (below && !p.read.isEmpty()) {
                        p.read.add(i);
                    }
                    break;
                case 'g':
                    List<Integer> round = new ArrayList<>(p.bound.tailSet(i + 1));
                    round.addAll(p.bound.headSet(i));
                    round.removeAll(p.read);
                    if (!round.isEmpty()) {
                        p.read.add(round.get(0));
                    }
                    break;
                case 's':
                    p.said.add(i);
                    break;
                default:
                    break;
            }
        }

        boolean mayRead(int i, int j) {
            Paper p = papers.get(j);
            return p.bound.contains(i) && !p.read.contains(i) && stands(p);
        }

        int allHad() {
            int sum = 0;
            for (Person p : persons) {
                sum += p.had;
            }
            return sum;
        }
    }

    private World world = new World();
    private World kept = null;
    private final StringBuilder text = new StringBuilder();
    private final List<Integer> rowNow = new ArrayList<>();
    private final int[] refused = new int[7];

    private static int bits(Iterable<Integer> some) {
        int b = 0;
        for (int i : some) {
            b |= 1 << i;
        }
        return b;
    }

    private long no(int why) {
        refused[why]++;
        return -why;
    }

    private long far(int why) {
        refused[why]++;
        return 1000000000L + why;
    }

    private long farthest(int why) {
        refused[why]++;
        return 4000000000000000000L + why;
    }

    private boolean lacksPerson(int i) {
        return i < 0 || i >= world.persons.size();
    }

    private boolean lacksPaper(int j) {
        return j < 0 || j >= world.papers.size();
    }

    private static boolean lacksThing(int t) {
        return t < 0 || t > 2;
    }

    private Paper at(int j) {
        return world.papers.get(j);
    }

    // ---- the face ----

    public long letter(int c) {
        if (c < 0) {
            return no(4);
        }
        if (c > 255 || text.length() == 64) {
            return no(6);
        }
        text.append((char) c);
        return text.length();
    }

    public long town() {
        String all = text.toString();
        text.setLength(0);
        if (!TEXT.matcher(all).matches()) {
            for (int i = 1; i <= all.length(); i++) {
                Matcher m = TEXT.matcher(all.substring(0, i));
                if (!m.matches() && !m.hitEnd()) {
                    return -1000 - (i - 1);
                }
            }
            return -1000 - all.length();
        }
        World next = world.copy();
        int many = 0;
        Matcher m = ONE.matcher(all);
        while (m.find()) {
            if (!tell(next, m.group())) {
                return -2000 - m.start();
            }
            many++;
        }
        world = next;
        return many;
    }

    private static boolean tell(World w, String s) {
        String rest = s.substring(1, s.length() - 1);
        switch (s.charAt(0)) {
            case 'p':
                Person he = new Person();
                he.kind = rest.charAt(0);
                he.bar = rest.charAt(1) - '0';
                he.patience = Integer.parseInt(rest.substring(2));
                w.persons.add(he);
                return w.persons.size() <= 6;
            case 'l':
                w.law = Integer.parseInt(rest);
                return w.law <= 4;
            case 'c':
                w.clerk = Integer.parseInt(rest);
                return w.clerk <= 100;
            default:
                return tellPaper(w, rest.split("[,:]"));
        }
    }

    private static boolean tellPaper(World w, String[] parts) {
        Paper p = new Paper();
        int ahead = -1;
        for (char d : parts[0].toCharArray()) {
            int i = d - '0';
            if (i <= ahead || i >= w.persons.size()) {
                return false;
            }
            ahead = i;
            p.bound.add(i);
        }
        int c0 = Integer.parseInt(parts[1]);
        int c1 = Integer.parseInt(parts[2]);
        if (c0 + c1 > 100) {
            return false;
        }
        p.hundredths = new int[] {c0, c1, 100 - c0 - c1};
        for (int t = 0; t < 3; t++) {
            p.gain[t] = parts[3].charAt(t) - '0' - 4;
        }
        for (int i : p.bound) {
            p.weights.put(i, least(p.hundredths[0], p.hundredths[1], p.hundredths[2]));
            p.heard.put(i, 0);
        }
        w.papers.add(p);
        return w.papers.size() <= 5;
    }

    private static List<Integer> least(long a, long b, long c) {
        int g = BigInteger.valueOf(a).gcd(BigInteger.valueOf(b)).gcd(BigInteger.valueOf(c)).intValueExact();
        return List.of((int) (a / g), (int) (b / g), (int) (c / g));
    }

    public long person(int i, int what) {
        if (lacksPerson(i)) {
            return no(1);
        }
        Person he = world.persons.get(i);
        List<Integer> binding = new ArrayList<>();
        List<Integer> done = new ArrayList<>();
        for (int j = 0; j < world.papers.size(); j++) {
            if (at(j).bound.contains(i)) {
                binding.add(j);
            }
            if (at(j).read.contains(i)) {
                done.add(j);
            }
        }
        switch (what) {
            case 0: return List.of('b', 'l', 't', 'e', 'w', 'g', 's').indexOf(he.kind);
            case 1: return he.bar;
            case 2: return he.patience;
            case 3: return bits(binding);
            case 4: return bits(done);
            default: return no(2);
        }
    }

    public long paper(int j, int what) {
        if (lacksPaper(j)) {
            return no(1);
        }
        Paper p = at(j);
        switch (what) {
            case 0: return bits(p.bound);
            case 1: return p.hundredths[0];
            case 2: return p.hundredths[1];
            case 3: return p.hundredths[2];
            case 4: return p.truth;
            case 5: return bits(p.read);
            case 6: return world.stands(p) ? 1 : 0;
            case 7: return p.lasted;
            default: return no(2);
        }
    }

    public long brings(int j, int t) {
        return lacksPaper(j) || lacksThing(t) ? far(1) : at(j).gain[t];
    }

    public long truth(int j, int t) {
        if (lacksPaper(j) || lacksThing(t)) {
            return no(1);
        }
        if (!at(j).read.isEmpty()) {
            return no(3);
        }
        int was = at(j).truth;
        at(j).truth = t;
        return was;
    }

    public long law(int v) {
        if (v < 0 || v > 4) {
            return no(2);
        }
        int was = world.law;
        world.law = v;
        return was;
    }

    public long reads(int i, int j) {
        if (lacksPerson(i) || lacksPaper(j)) {
            return no(1);
        }
        if (!world.mayRead(i, j)) {
            return no(3);
        }
        at(j).read.add(i);
        return at(j).read.size();
    }

    public long hear(int i, int j, int t) {
        if (lacksPerson(i) || lacksPaper(j) || lacksThing(t)) {
            return no(1);
        }
        Paper p = at(j);
        if (!p.unread().contains(i)) {
            return no(3);
        }
        if (p.heard.get(i) == 3) {
            return no(6);
        }
        long[] w = new long[3];
        long all = 0;
        for (int k = 0; k < 3; k++) {
            w[k] = (long) p.weights.get(i).get(k) * (k == t ? 2 * world.clerk : 100 - world.clerk);
            all += w[k];
        }
        if (all > 0) {
            p.weights.put(i, least(w[0], w[1], w[2]));
        }
        p.heard.put(i, p.heard.get(i) + 1);
        return p.heard.get(i);
    }

    public long weight(int i, int j, int t) {
        if (lacksPerson(i) || lacksPaper(j) || lacksThing(t)) {
            return farthest(1);
        }
        return at(j).bound.contains(i) ? at(j).weightsOf(i).get(t) : farthest(3);
    }

    public long think(int i, int j, int part) {
        if (lacksPerson(i) || lacksPaper(j)) {
            return farthest(1);
        }
        if (part < 0 || part > 1) {
            return farthest(2);
        }
        return at(j).bound.contains(i) ? at(j).think(i).part(part) : farthest(3);
    }

    public long weeks(int n) {
        if (n < 1) {
            return no(4);
        }
        if (n > 99) {
            return no(6);
        }
        for (int k = 0; k < n; k++) {
            world.week(-1, -1);
        }
        return world.week;
    }

    public long had(int i) {
        return lacksPerson(i) ? far(1) : world.persons.get(i).had;
    }

    public long liars(int j) {
        if (lacksPaper(j)) {
            return no(1);
        }
        SortedSet<Integer> lie = at(j).unread();
        lie.retainAll(at(j).said);
        return bits(lie);
    }

    /** The mean for each k, by playing the weeks through for each THING that could be TRUE. */
    private List<Fraction> means(int i, int j, int n) {
        List<Fraction> all = new ArrayList<>();
        List<Integer> w = at(j).weightsOf(i);
        long sum = (long) w.get(0) + w.get(1) + w.get(2);
        for (int k = 0; k <= n; k++) {
            Fraction mean = Fraction.of(0, 1);
            for (int t = 0; t < 3; t++) {
                World then = world.copy();
                then.papers.get(j).truth = t;
                int before = then.papers.get(j).lasted;
                for (int v = 0; v < n; v++) {
                    if (v == k && then.mayRead(i, j)) {
                        then.papers.get(j).read.add(i);
                    }
                    then.week(i, j);
                }
                long brought = (long) (then.papers.get(j).lasted - before) * at(j).gain[t];
                mean = mean.plus(Fraction.of(brought * w.get(t), sum));
            }
            all.add(mean);
        }
        return all;
    }

    private static int bestOf(List<Fraction> all) {
        int best = 0;
        for (int k = 1; k < all.size(); k++) {
            if (all.get(k).compareTo(all.get(best)) > 0) {
                best = k;
            }
        }
        return best;
    }

    public long when(int i, int j, int n) {
        if (lacksPerson(i) || lacksPaper(j)) {
            return no(1);
        }
        if (n < 1) {
            return no(4);
        }
        if (n > 20) {
            return no(6);
        }
        return at(j).unread().contains(i) ? bestOf(means(i, j, n)) : no(3);
    }

    public long mean(int i, int j, int n, int part) {
        if (lacksPerson(i) || lacksPaper(j)) {
            return farthest(1);
        }
        if (part < 0 || part > 1) {
            return farthest(2);
        }
        if (n < 1) {
            return farthest(4);
        }
        if (n > 20) {
            return farthest(6);
        }
        if (!at(j).unread().contains(i)) {
            return farthest(3);
        }
        List<Fraction> all = means(i, j, n);
        return all.get(bestOf(all)).part(part);
    }

    private Fraction worth(int i, int j, int profile) {
        World then = world.copy();
        Paper p = then.papers.get(j);
        for (int k = 0; k < 6; k++) {
            if ((profile >> k & 1) != 0) {
                p.read.add(k);
            }
        }
        return then.stands(p) ? at(j).think(i) : Fraction.of(0, 1);
    }

    private List<Integer> allRests(int j) {
        List<Integer> found = new ArrayList<>();
        int free = bits(at(j).unread());
        for (int profile = 0; profile < 64; profile++) {
            if ((profile | free) != free) {
                continue;
            }
            boolean rests = true;
            for (int i : at(j).unread()) {
                rests &= worth(i, j, profile ^ (1 << i)).compareTo(worth(i, j, profile)) <= 0;
            }
            if (rests) {
                found.add(profile);
            }
        }
        return found;
    }

    public long rests(int j) {
        return lacksPaper(j) ? no(1) : allRests(j).size();
    }

    public long rest(int j) {
        if (lacksPaper(j)) {
            return no(1);
        }
        List<Integer> all = allRests(j);
        return all.isEmpty() ? -9 : all.get(0);
    }

    private SortedSet<Integer> enders(int j) {
        SortedSet<Integer> found = new TreeSet<>();
        for (int i : at(j).unread()) {
            World then = world.copy();
            boolean stood = then.stands(then.papers.get(j));
            then.papers.get(j).read.add(i);
            if (stood && !then.stands(then.papers.get(j))) {
                found.add(i);
            }
        }
        return found;
    }

    public long ends(int j) {
        return lacksPaper(j) ? no(1) : bits(enders(j));
    }

    public long asks(int i, int j, int n) {
        if (lacksPerson(i) || lacksPaper(j)) {
            return no(1);
        }
        if (n < 1) {
            return no(4);
        }
        if (n > 99) {
            return no(6);
        }
        if (!at(j).bound.contains(i)) {
            return no(3);
        }
        if (!enders(j).contains(i)) {
            return 0;
        }
        long sum = 0;
        for (int o : at(j).bound) {
            if (o != i) {
                Fraction t = at(j).think(o);
                sum += t.above.multiply(BigInteger.valueOf(1000)).divide(t.below).longValueExact();
            }
        }
        return Math.max(0, -sum * n);
    }

    /** Answers how many orders there are, and puts into ended[0] in how many of them person i ends it. */
    private static long orders(World then, int j, SortedSet<Integer> left, int i, long[] ended) {
        if (left.isEmpty()) {
            return 1;
        }
        long many = 0;
        for (int next : left) {
            World step = then.copy();
            boolean stood = step.stands(step.papers.get(j));
            step.papers.get(j).read.add(next);
            SortedSet<Integer> less = new TreeSet<>(left);
            less.remove(next);
            long below = orders(step, j, less, i, ended);
            if (next == i && stood && !step.stands(step.papers.get(j))) {
                ended[0] += below;
            }
            many += below;
        }
        return many;
    }

    public long power(int i, int j, int part) {
        if (lacksPerson(i) || lacksPaper(j)) {
            return no(1);
        }
        if (part < 0 || part > 1) {
            return no(2);
        }
        if (!at(j).unread().contains(i)) {
            return no(3);
        }
        long[] ended = new long[1];
        long all = orders(world.copy(), j, at(j).unread(), i, ended);
        return Fraction.of(ended[0], all).part(part);
    }

    private Fraction stillStands(World then, int j, List<Integer> looks, int from, int hundredths) {
        if (from == looks.size()) {
            return Fraction.of(then.stands(then.papers.get(j)) ? 1 : 0, 1);
        }
        Fraction misses = stillStands(then, j, looks, from + 1, hundredths).times(Fraction.of(100 - hundredths, 100));
        World seen = then.copy();
        seen.papers.get(j).read.add(looks.get(from));
        return misses.plus(stillStands(seen, j, looks, from + 1, hundredths).times(Fraction.of(hundredths, 100)));
    }

    public long chance(int j, int hundredths, int n, int part) {
        if (lacksPaper(j)) {
            return farthest(1);
        }
        if (part < 0 || part > 1) {
            return farthest(2);
        }
        if (hundredths < 0 || n < 0) {
            return farthest(4);
        }
        if (hundredths > 100 || n > 8 || n * at(j).unread().size() > 8) {
            return farthest(6);
        }
        List<Integer> looks = new ArrayList<>();
        for (int v = 0; v < n; v++) {
            looks.addAll(at(j).unread());
        }
        return stillStands(world.copy(), j, looks, 0, hundredths).part(part);
    }

    private int standing(int j, int law, int n) {
        World then = world.copy();
        then.law = law;
        for (int v = 0; v < n; v++) {
            then.week(-1, -1);
        }
        return then.papers.get(j).lasted - at(j).lasted;
    }

    public long laws(int j, int law, int n) {
        if (lacksPaper(j)) {
            return no(1);
        }
        if (law < 0 || law > 4) {
            return no(2);
        }
        if (n < 1) {
            return no(4);
        }
        return n > 60 ? no(6) : standing(j, law, n);
    }

    public long lasting(int n) {
        if (n < 1) {
            return no(4);
        }
        if (n > 60) {
            return no(6);
        }
        int best = -9;
        for (int j = world.papers.size() - 1; j >= 0; j--) {
            if (best == -9 || standing(j, world.law, n) >= standing(best, world.law, n)) {
                best = j;
            }
        }
        return best;
    }

    public long lots(int n, int z) {
        if (n < 1) {
            return far(4);
        }
        if (n > 60) {
            return far(6);
        }
        if (world.persons.isEmpty() || world.papers.isEmpty()) {
            return far(3);
        }
        World then = world.copy();
        long seed = z;
        for (int v = 0; v < n; v++) {
            seed = (int) (seed * 1664525L + 1013904223L);
            int i = (int) ((seed & 0x7fffffffL) / 256 % then.persons.size());
            seed = (int) (seed * 1664525L + 1013904223L);
            int j = (int) ((seed & 0x7fffffffL) / 256 % then.papers.size());
            if (then.mayRead(i, j)) {
                then.papers.get(j).read.add(i);
            }
            then.week(-1, -1);
        }
        return then.allHad() - world.allHad();
    }

    public long row(int v) {
        if (v < 0) {
            return no(4);
        }
        if (v > 9 || rowNow.size() == 12) {
            return no(6);
        }
        rowNow.add(v);
        return rowNow.size();
    }

    public long judge(int j) {
        if (lacksPaper(j)) {
            return no(1);
        }
        World then = world.copy();
        int answer = -9;
        for (int v = 0; v < rowNow.size() && answer == -9; v++) {
            int i = rowNow.get(v);
            if (i != 9) {
                if (then.mayRead(i, j)) {
                    then.papers.get(j).read.add(i);
                } else {
                    answer = v;
                }
            }
            then.week(-1, -1);
        }
        rowNow.clear();
        return answer;
    }

    public long image() {
        kept = world.copy();
        return world.week;
    }

    public long on() {
        if (kept == null) {
            return no(3);
        }
        world = kept.copy();
        return world.week;
    }

    public long count(int what) {
        int standing = 0;
        for (Paper p : world.papers) {
            standing += world.stands(p) ? 1 : 0;
        }
        switch (what) {
            case 0: return world.persons.size();
            case 1: return world.papers.size();
            case 2: return world.week;
            case 3: return standing;
            case 4: return world.law;
            case 5: return world.clerk;
            case 6: return rowNow.size();
            case 7: return text.length();
            default: return what >= 11 && what <= 16 ? refused[what - 10] : -9;
        }
    }
}
