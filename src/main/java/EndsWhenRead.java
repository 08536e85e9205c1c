/** Papers that bind people until they have been read; ../shared/DOC.md tells what each call answers. */
public final class EndsWhenRead {
    private static final int MOST_PERSONS = 6;
    private static final int MOST_PAPERS = 5;
    private static final int THINGS = 3;
    private static final int LAWS = 5;
    private static final int MOST_LETTERS = 64;
    private static final int MOST_SIGN = 255;
    private static final int MOST_WEEKS = 99;
    private static final int MOST_WHEN = 20;
    private static final int MOST_AHEAD = 60;
    private static final int MOST_ASKED = 99;
    private static final int MOST_SEEN = 8;
    private static final int MOST_HEARD = 3;
    private static final int MOST_ROW = 12;
    private static final int ROW_NOBODY = 9;
    private static final int ALL_HUNDREDTHS = 100;
    private static final int NONE = -9;
    private static final int NOT_ANY = -1;

    private static final int NOBODY = 1;
    private static final int OTHER = 2;
    private static final int STATE = 3;
    private static final int BELOW = 4;
    private static final int ROOM = 6;
    private static final int FAR = 1000000000;
    private static final long FARTHEST = 4000000000000000000L;

    private final Town now;
    private final Town draft;
    private final Town kept;
    private boolean hasKept;
    private final Letters letters;
    private final Mind mind;
    private final Ratio ratio;
    private final int[] readRow;
    private int rowSize;
    private final int[] refusals;

    public EndsWhenRead() {
        now = new Town();
        draft = new Town();
        kept = new Town();
        hasKept = false;
        letters = new Letters();
        mind = new Mind(now, draft);
        ratio = new Ratio();
        readRow = new int[MOST_ROW];
        rowSize = 0;
        refusals = new int[ROOM + 1];
    }

    // ---- what is told ----

    public int letter(int c) {
        if (c < 0) {
            return refuse(BELOW);
        }
        if (c > MOST_SIGN || letters.isFull()) {
            return refuse(ROOM);
        }
        return letters.add(c);
    }

    public int town() {
        int answer = settle();
        letters.clear();
        return answer;
    }

    public int person(int person, int what) {
        if (!now.hasPerson(person)) {
            return refuse(NOBODY);
        }
        if (what < 0 || what > 4) {
            return refuse(OTHER);
        }
        return now.personFact(person, what);
    }

    public int paper(int paper, int what) {
        if (!now.hasPaper(paper)) {
            return refuse(NOBODY);
        }
        if (what < 0 || what > 7) {
            return refuse(OTHER);
        }
        return now.paperFact(paper, what);
    }

    public int brings(int paper, int thing) {
        if (!now.hasPaper(paper) || isNoThing(thing)) {
            return refuseFar(NOBODY);
        }
        return now.gainOf(paper, thing);
    }

    public int truth(int paper, int thing) {
        if (!now.hasPaper(paper) || isNoThing(thing)) {
            return refuse(NOBODY);
        }
        if (now.readersOf(paper) != 0) {
            return refuse(STATE);
        }
        return now.changeTruth(paper, thing);
    }

    public int law(int v) {
        if (isNoLaw(v)) {
            return refuse(OTHER);
        }
        return now.changeLaw(v);
    }

    public int reads(int person, int paper) {
        if (isNoPair(person, paper)) {
            return refuse(NOBODY);
        }
        if (!now.canRead(person, paper)) {
            return refuse(STATE);
        }
        now.markRead(person, paper);
        return Integer.bitCount(now.readersOf(paper));
    }

    public int hear(int person, int paper, int thing) {
        if (isNoPair(person, paper) || isNoThing(thing)) {
            return refuse(NOBODY);
        }
        if (!now.isUnread(person, paper)) {
            return refuse(STATE);
        }
        if (now.heardBy(person, paper) >= MOST_HEARD) {
            return refuse(ROOM);
        }
        return now.clerkSays(person, paper, thing);
    }

    public long weight(int person, int paper, int thing) {
        if (isNoPair(person, paper) || isNoThing(thing)) {
            return refuseFarthest(NOBODY);
        }
        if (!now.isBound(person, paper)) {
            return refuseFarthest(STATE);
        }
        return now.weightOf(person, paper, thing);
    }

    public long think(int person, int paper, int part) {
        if (isNoPair(person, paper)) {
            return refuseFarthest(NOBODY);
        }
        if (isNoPart(part)) {
            return refuseFarthest(OTHER);
        }
        if (!now.isBound(person, paper)) {
            return refuseFarthest(STATE);
        }
        ratio.become(now.thinkAbove(person, paper), now.thinkBelow(person, paper));
        return ratio.partOf(part);
    }

    // ---- weeks as they come to pass ----

    public int weeks(int n) {
        int why = whyNotSoMany(n, MOST_WEEKS);
        if (why != 0) {
            return refuse(why);
        }
        for (int i = 0; i < n; i++) {
            now.passWeek();
        }
        return now.weekNow();
    }

    public int had(int person) {
        if (!now.hasPerson(person)) {
            return refuseFar(NOBODY);
        }
        return now.hadBy(person);
    }

    public int liars(int paper) {
        if (!now.hasPaper(paper)) {
            return refuse(NOBODY);
        }
        return now.liarsOf(paper);
    }

    // ---- in mind ----

    public int when(int person, int paper, int n) {
        if (isNoPair(person, paper)) {
            return refuse(NOBODY);
        }
        int why = whyNotWhen(person, paper, n);
        if (why != 0) {
            return refuse(why);
        }
        return mind.bestWeek(person, paper, n);
    }

    public long mean(int person, int paper, int n, int part) {
        if (isNoPair(person, paper)) {
            return refuseFarthest(NOBODY);
        }
        if (isNoPart(part)) {
            return refuseFarthest(OTHER);
        }
        int why = whyNotWhen(person, paper, n);
        if (why != 0) {
            return refuseFarthest(why);
        }
        int best = mind.bestWeek(person, paper, n);
        long lasts = mind.lastsIfReadAt(person, paper, n, best);
        ratio.become(lasts * now.thinkAbove(person, paper), now.thinkBelow(person, paper));
        return ratio.partOf(part);
    }

    public int rests(int paper) {
        if (!now.hasPaper(paper)) {
            return refuse(NOBODY);
        }
        return mind.countRests(paper);
    }

    public int rest(int paper) {
        if (!now.hasPaper(paper)) {
            return refuse(NOBODY);
        }
        return mind.firstRest(paper);
    }

    public int ends(int paper) {
        if (!now.hasPaper(paper)) {
            return refuse(NOBODY);
        }
        return mind.endersOf(paper);
    }

    public int asks(int person, int paper, int n) {
        if (isNoPair(person, paper)) {
            return refuse(NOBODY);
        }
        int why = whyNotSoMany(n, MOST_ASKED);
        if (why != 0) {
            return refuse(why);
        }
        if (!now.isBound(person, paper)) {
            return refuse(STATE);
        }
        return mind.priceOf(person, paper, n);
    }

    public int power(int person, int paper, int part) {
        if (isNoPair(person, paper)) {
            return refuse(NOBODY);
        }
        if (isNoPart(part)) {
            return refuse(OTHER);
        }
        if (!now.isUnread(person, paper)) {
            return refuse(STATE);
        }
        mind.weighPower(paper, ratio);
        return (int) ratio.partOf(part);
    }

    public long chance(int paper, int hundredths, int n, int part) {
        if (!now.hasPaper(paper)) {
            return refuseFarthest(NOBODY);
        }
        if (isNoPart(part)) {
            return refuseFarthest(OTHER);
        }
        if (hundredths < 0 || n < 0) {
            return refuseFarthest(BELOW);
        }
        if (hundredths > ALL_HUNDREDTHS || n > MOST_SEEN
                || n * Integer.bitCount(now.unreadOf(paper)) > MOST_SEEN) {
            return refuseFarthest(ROOM);
        }
        mind.weighChance(paper, hundredths, n, ratio);
        return ratio.partOf(part);
    }

    public int laws(int paper, int law, int n) {
        if (!now.hasPaper(paper)) {
            return refuse(NOBODY);
        }
        if (isNoLaw(law)) {
            return refuse(OTHER);
        }
        int why = whyNotSoMany(n, MOST_AHEAD);
        if (why != 0) {
            return refuse(why);
        }
        return mind.lastsUnder(paper, law, n);
    }

    public int lasting(int n) {
        int why = whyNotSoMany(n, MOST_AHEAD);
        if (why != 0) {
            return refuse(why);
        }
        return mind.longestOf(n);
    }

    public int lots(int n, int z) {
        int why = whyNotSoMany(n, MOST_AHEAD);
        if (why == 0 && (now.personCount() == 0 || now.paperCount() == 0)) {
            why = STATE;
        }
        if (why != 0) {
            return refuseFar(why);
        }
        return mind.drawWeeks(n, z);
    }

    public int row(int v) {
        if (v < 0) {
            return refuse(BELOW);
        }
        if (v > ROW_NOBODY || rowSize >= MOST_ROW) {
            return refuse(ROOM);
        }
        readRow[rowSize] = v;
        rowSize++;
        return rowSize;
    }

    public int judge(int paper) {
        if (!now.hasPaper(paper)) {
            return refuse(NOBODY);
        }
        int answer = mind.firstThatCanNot(paper, readRow, rowSize);
        rowSize = 0;
        return answer;
    }

    // ---- the image, and counts ----

    public int image() {
        kept.become(now);
        hasKept = true;
        return now.weekNow();
    }

    public int on() {
        if (!hasKept) {
            return refuse(STATE);
        }
        now.become(kept);
        return now.weekNow();
    }

    public int count(int what) {
        switch (what) {
            case 0: return now.personCount();
            case 1: return now.paperCount();
            case 2: return now.weekNow();
            case 3: return now.papersInForce();
            case 4: return now.lawNow();
            case 5: return now.clerkNow();
            case 6: return rowSize;
            case 7: return letters.howMany();
            default: return refusalsOf(what - 10);
        }
    }

    private int refusalsOf(int why) {
        if (why < NOBODY || why > ROOM) {
            return NONE;
        }
        return refusals[why];
    }

    // ---- refusals ----

    private int refuse(int why) {
        refusals[why]++;
        return -why;
    }

    private int refuseFar(int why) {
        refusals[why]++;
        return FAR + why;
    }

    private long refuseFarthest(int why) {
        refusals[why]++;
        return FARTHEST + why;
    }

    private boolean isNoPair(int person, int paper) {
        return !now.hasPerson(person) || !now.hasPaper(paper);
    }

    private static boolean isNoThing(int thing) {
        return thing < 0 || thing >= THINGS;
    }

    private static boolean isNoLaw(int law) {
        return law < 0 || law >= LAWS;
    }

    private static boolean isNoPart(int part) {
        return part != 0 && part != 1;
    }

    private static int whyNotSoMany(int n, int most) {
        if (n < 1) {
            return BELOW;
        }
        return n > most ? ROOM : 0;
    }

    private int whyNotWhen(int person, int paper, int n) {
        int why = whyNotSoMany(n, MOST_WHEN);
        if (why == 0 && !now.isUnread(person, paper)) {
            why = STATE;
        }
        return why;
    }

    // ---- the letters become a town ----

    /** Tells the statements to a draft first, so that a fault leaves all as it was. */
    private int settle() {
        int broken = letters.brokenPlace();
        if (broken >= 0) {
            return -1000 - broken;
        }
        draft.become(now);
        letters.rewind();
        int statements = 0;
        while (letters.hasMore() && statements < MOST_LETTERS) {
            int start = letters.place();
            if (!letters.nextStatement() || !draft.takes(letters)) {
                return -2000 - start;
            }
            statements++;
        }
        now.become(draft);
        return statements;
    }

    /** The letters that have come, and the STATEMENT that was gone over last. */
    private static final class Letters {
        private static final String KINDS = "bltewgs";
        private static final int MOST_NUMBERS = 6;

        private final int[] text;
        private int size;
        private int at;
        private int sort;
        private final int[] numbers;

        Letters() {
            text = new int[MOST_LETTERS];
            size = 0;
            at = 0;
            sort = 0;
            numbers = new int[MOST_NUMBERS];
        }

        boolean isFull() {
            return size >= MOST_LETTERS;
        }

        int add(int c) {
            if (size < MOST_LETTERS) {
                text[size] = c;
                size++;
            }
            return size;
        }

        int howMany() {
            return size;
        }

        void clear() {
            size = 0;
            at = 0;
        }

        void rewind() {
            at = 0;
        }

        boolean hasMore() {
            return at < size;
        }

        int place() {
            return at;
        }

        int sortOfStatement() {
            return sort;
        }

        int number(int i) {
            return i >= 0 && i < MOST_NUMBERS ? numbers[i] : 0;
        }

        /** The place of the first letter with which no TOWN can go on; -1 if there is none. */
        int brokenPlace() {
            rewind();
            int statements = 0;
            do {
                if (!nextStatement()) {
                    return at;
                }
                statements++;
            } while (hasMore() && statements < MOST_LETTERS);
            return -1;
        }

        /** Goes over one STATEMENT; if it can not, it stands at the letter that is wrong. */
        boolean nextStatement() {
            sort = at < size ? text[at] : -1;
            switch (sort) {
                case 'p': return passes('p') && passesKind() && passesNumber(1, 1)
                        && passesNumber(2, 2) && passes(';');
                case 'a': return passes('a') && passesPersons() && passes(',') && passesNumber(1, 3)
                        && passes(',') && passesNumber(2, 3) && passes(':') && passesNumber(3, 1)
                        && passesNumber(4, 1) && passesNumber(5, 1) && passes(';');
                case 'l': return passes('l') && passesNumber(0, 1) && passes(';');
                case 'c': return passes('c') && passesNumber(0, 3) && passes(';');
                default: return false;
            }
        }

        private boolean passes(int sign) {
            if (at < size && text[at] == sign) {
                at++;
                return true;
            }
            return false;
        }

        private boolean passesKind() {
            int found = at < size ? KINDS.indexOf((char) text[at]) : -1;
            if (found < 0) {
                return false;
            }
            numbers[0] = found;
            at++;
            return true;
        }

        private boolean isAtDigit() {
            return at < size && text[at] >= '0' && text[at] <= '9';
        }

        private boolean passesNumber(int slot, int mostDigits) {
            int value = 0;
            int digits = 0;
            while (digits < mostDigits && isAtDigit()) {
                value = value * 10 + text[at] - '0';
                at++;
                digits++;
            }
            numbers[slot] = value;
            return digits > 0;
        }

        /** PERSONS as bits; no bits at all stand for PERSONS that do not rise. */
        private boolean passesPersons() {
            int bits = 0;
            boolean rises = true;
            int digits = 0;
            while (digits < MOST_PERSONS && isAtDigit()) {
                int bit = 1 << (text[at] - '0');
                rises = rises && bit > bits;
                bits |= bit;
                at++;
                digits++;
            }
            numbers[0] = rises ? bits : 0;
            return digits > 0;
        }
    }

    /** All that is told, and what has come of it. */
    private static final class Town {
        private static final int LOOK = 1;
        private static final int BAR = 2;
        private static final int LATE = 3;
        private static final int AFTER = 4;
        private static final int GIVE = 5;
        private static final int SAY = 6;
        private static final int ALL = 0;
        private static final int ANY = 1;
        private static final int MOST = 2;
        private static final int TWO = 3;
        private static final int LESS = 4;
        private static final int FIRST_CLERK = 50;

        private int persons;
        private int papers;
        private int ruling;
        private int clerk;
        private int week;
        private final int[] kind;
        private final int[] bar;
        private final int[] patience;
        private final int[] gained;
        // PERSONS as bits, by PAPER
        private final int[] bound;
        private final int[] readers;
        private final int[] sayers;
        private final int[] trueThing;
        private final int[] lasted;
        // by PAPER and THING
        private final int[] hundredths;
        private final int[] gains;
        // by PAPER and PERSON, the weights by THING too
        private final int[] heard;
        private final long[] weights;

        Town() {
            persons = 0;
            papers = 0;
            ruling = ALL;
            clerk = FIRST_CLERK;
            week = 0;
            kind = new int[MOST_PERSONS];
            bar = new int[MOST_PERSONS];
            patience = new int[MOST_PERSONS];
            gained = new int[MOST_PERSONS];
            bound = new int[MOST_PAPERS];
            readers = new int[MOST_PAPERS];
            sayers = new int[MOST_PAPERS];
            trueThing = new int[MOST_PAPERS];
            lasted = new int[MOST_PAPERS];
            hundredths = new int[MOST_PAPERS * THINGS];
            gains = new int[MOST_PAPERS * THINGS];
            heard = new int[MOST_PAPERS * MOST_PERSONS];
            weights = new long[MOST_PAPERS * MOST_PERSONS * THINGS];
        }

        void become(Town other) {
            persons = other.persons;
            papers = other.papers;
            ruling = other.ruling;
            clerk = other.clerk;
            week = other.week;
            System.arraycopy(other.kind, 0, kind, 0, MOST_PERSONS);
            System.arraycopy(other.bar, 0, bar, 0, MOST_PERSONS);
            System.arraycopy(other.patience, 0, patience, 0, MOST_PERSONS);
            System.arraycopy(other.gained, 0, gained, 0, MOST_PERSONS);
            System.arraycopy(other.bound, 0, bound, 0, MOST_PAPERS);
            System.arraycopy(other.readers, 0, readers, 0, MOST_PAPERS);
            System.arraycopy(other.sayers, 0, sayers, 0, MOST_PAPERS);
            System.arraycopy(other.trueThing, 0, trueThing, 0, MOST_PAPERS);
            System.arraycopy(other.lasted, 0, lasted, 0, MOST_PAPERS);
            System.arraycopy(other.hundredths, 0, hundredths, 0, MOST_PAPERS * THINGS);
            System.arraycopy(other.gains, 0, gains, 0, MOST_PAPERS * THINGS);
            System.arraycopy(other.heard, 0, heard, 0, MOST_PAPERS * MOST_PERSONS);
            System.arraycopy(other.weights, 0, weights, 0, MOST_PAPERS * MOST_PERSONS * THINGS);
        }

        // ---- telling ----

        /** Takes a STATEMENT in; answers false if it is not as it must be. */
        boolean takes(Letters said) {
            switch (said.sortOfStatement()) {
                case 'p': return takesPerson(said.number(0), said.number(1), said.number(2));
                case 'a': return takesPaper(said);
                case 'l': return takesLaw(said.number(0));
                default: return takesClerk(said.number(0));
            }
        }

        private boolean takesPerson(int newKind, int newBar, int newPatience) {
            if (persons >= MOST_PERSONS) {
                return false;
            }
            kind[persons] = newKind;
            bar[persons] = newBar;
            patience[persons] = newPatience;
            gained[persons] = 0;
            persons++;
            return true;
        }

        private boolean takesPaper(Letters said) {
            int binds = said.number(0);
            int left = ALL_HUNDREDTHS - said.number(1) - said.number(2);
            if (papers >= MOST_PAPERS || binds == 0 || binds >= 1 << persons || left < 0) {
                return false;
            }
            bound[papers] = binds;
            readers[papers] = 0;
            sayers[papers] = 0;
            trueThing[papers] = 0;
            lasted[papers] = 0;
            int first = papers * THINGS;
            hundredths[first] = said.number(1);
            hundredths[first + 1] = said.number(2);
            hundredths[first + 2] = left;
            for (int thing = 0; thing < THINGS; thing++) {
                gains[first + thing] = said.number(3 + thing) - LESS;
            }
            for (int person = 0; person < MOST_PERSONS; person++) {
                weighFirst(person, papers);
            }
            papers++;
            return true;
        }

        private void weighFirst(int person, int paper) {
            heard[paper * MOST_PERSONS + person] = 0;
            int first = (paper * MOST_PERSONS + person) * THINGS;
            for (int thing = 0; thing < THINGS; thing++) {
                weights[first + thing] = hundredths[paper * THINGS + thing];
            }
            lessenWeights(first);
        }

        private boolean takesLaw(int law) {
            if (isNoLaw(law)) {
                return false;
            }
            ruling = law;
            return true;
        }

        private boolean takesClerk(int value) {
            if (value > ALL_HUNDREDTHS) {
                return false;
            }
            clerk = value;
            return true;
        }

        int changeTruth(int paper, int thing) {
            int was = trueThing[paper];
            trueThing[paper] = thing;
            return was;
        }

        int changeLaw(int law) {
            int was = ruling;
            ruling = law;
            return was;
        }

        // ---- asking ----

        boolean hasPerson(int person) {
            return person >= 0 && person < persons;
        }

        boolean hasPaper(int paper) {
            return paper >= 0 && paper < papers;
        }

        int personCount() {
            return persons;
        }

        int paperCount() {
            return papers;
        }

        int weekNow() {
            return week;
        }

        int lawNow() {
            return ruling;
        }

        int clerkNow() {
            return clerk;
        }

        int personFact(int person, int what) {
            switch (what) {
                case 0: return kind[person];
                case 1: return bar[person];
                case 2: return patience[person];
                case 3: return papersWith(bound, person);
                default: return papersWith(readers, person);
            }
        }

        private int papersWith(int[] personBits, int person) {
            int bits = 0;
            for (int paper = 0; paper < papers; paper++) {
                bits |= (personBits[paper] >> person & 1) << paper;
            }
            return bits;
        }

        int paperFact(int paper, int what) {
            switch (what) {
                case 0: return bound[paper];
                case 4: return trueThing[paper];
                case 5: return readers[paper];
                case 6: return isInForce(paper) ? 1 : 0;
                case 7: return lasted[paper];
                default: return what >= 1 && what <= THINGS ? hundredths[paper * THINGS + what - 1] : 0;
            }
        }

        int papersInForce() {
            int many = 0;
            for (int paper = 0; paper < papers; paper++) {
                many += isInForce(paper) ? 1 : 0;
            }
            return many;
        }

        int gainOf(int paper, int thing) {
            return gains[paper * THINGS + thing];
        }

        int boundBy(int paper) {
            return bound[paper];
        }

        int readersOf(int paper) {
            return readers[paper];
        }

        int unreadOf(int paper) {
            return bound[paper] & ~readers[paper];
        }

        int liarsOf(int paper) {
            return sayers[paper] & ~readers[paper];
        }

        int hadBy(int person) {
            return gained[person];
        }

        int hadByAll() {
            int sum = 0;
            for (int person = 0; person < persons; person++) {
                sum += gained[person];
            }
            return sum;
        }

        int heardBy(int person, int paper) {
            return heard[paper * MOST_PERSONS + person];
        }

        boolean isBound(int person, int paper) {
            return (bound[paper] >> person & 1) != 0;
        }

        boolean isUnread(int person, int paper) {
            return (unreadOf(paper) >> person & 1) != 0;
        }

        boolean canRead(int person, int paper) {
            return isUnread(person, paper) && isInForce(paper);
        }

        boolean isInForce(int paper) {
            return isInForceWith(paper, Integer.bitCount(readers[paper]));
        }

        /** Whether the PAPER is IN FORCE once so many have READ it: no LAW asks who they are. */
        boolean isInForceWith(int paper, int read) {
            int binds = Integer.bitCount(bound[paper]);
            switch (ruling) {
                case ALL: return read < binds;
                case ANY: return read < 1;
                case MOST: return 2 * read <= binds;
                case TWO: return read < Math.min(2, binds);
                default: return true;
            }
        }

        // ---- weights ----

        long weightOf(int person, int paper, int thing) {
            if ((readers[paper] >> person & 1) != 0) {
                return thing == trueThing[paper] ? 1 : 0;
            }
            return weights[(paper * MOST_PERSONS + person) * THINGS + thing];
        }

        /** THINK above the line, not in least terms. */
        long thinkAbove(int person, int paper) {
            long sum = 0;
            for (int thing = 0; thing < THINGS; thing++) {
                sum += weightOf(person, paper, thing) * gains[paper * THINGS + thing];
            }
            return sum;
        }

        /** THINK below the line, not in least terms. */
        long thinkBelow(int person, int paper) {
            long sum = 0;
            for (int thing = 0; thing < THINGS; thing++) {
                sum += weightOf(person, paper, thing);
            }
            return sum;
        }

        int clerkSays(int person, int paper, int said) {
            int first = (paper * MOST_PERSONS + person) * THINGS;
            boolean allNothing = true;
            for (int thing = 0; thing < THINGS; thing++) {
                allNothing = allNothing && weights[first + thing] * trustIn(thing, said) == 0;
            }
            if (!allNothing) {
                for (int thing = 0; thing < THINGS; thing++) {
                    weights[first + thing] *= trustIn(thing, said);
                }
                lessenWeights(first);
            }
            heard[paper * MOST_PERSONS + person]++;
            return heard[paper * MOST_PERSONS + person];
        }

        private long trustIn(int thing, int said) {
            return thing == said ? 2 * clerk : ALL_HUNDREDTHS - clerk;
        }

        private void lessenWeights(int first) {
            long common = 0;
            for (int thing = 0; thing < THINGS; thing++) {
                common = Ratio.commonOf(common, weights[first + thing]);
            }
            if (common > 1) {
                for (int thing = 0; thing < THINGS; thing++) {
                    weights[first + thing] /= common;
                }
            }
        }

        // ---- weeks ----

        void markRead(int person, int paper) {
            readers[paper] |= 1 << person;
        }

        /** A WEEK. No PAPER's part of it looks at another PAPER's, so each may have its whole part at once. */
        void passWeek() {
            for (int paper = 0; paper < papers; paper++) {
                passPaper(paper, NOT_ANY);
            }
            endWeek();
        }

        void endWeek() {
            week++;
        }

        /** A PAPER's part of a WEEK, in which the idle one does nothing: in how many WEEKS it was IN FORCE. */
        int passPaper(int paper, int idle) {
            for (int person = 0; person < persons; person++) {
                if (person != idle && canRead(person, paper)) {
                    takeTurn(person, paper);
                }
            }
            if (!isInForce(paper)) {
                return 0;
            }
            for (int person = 0; person < persons; person++) {
                if (isBound(person, paper)) {
                    gained[person] += gains[paper * THINGS + trueThing[paper]];
                }
            }
            lasted[paper]++;
            return 1;
        }

        private void takeTurn(int person, int paper) {
            boolean looks = false;
            switch (kind[person]) {
                case LOOK:
                    looks = true;
                    break;
                case BAR:
                    looks = thinksLess(person, paper);
                    break;
                case LATE:
                    looks = week >= patience[person];
                    break;
                case AFTER:
                    looks = readers[paper] != 0 && thinksLess(person, paper);
                    break;
                case GIVE:
                    give(person, paper);
                    break;
                case SAY:
                    sayers[paper] |= 1 << person;
                    break;
                default:
                    break;
            }
            if (looks) {
                markRead(person, paper);
            }
        }

        /** Whether THINK is below BAR less 4, both sides times what is below THINK's line. */
        private boolean thinksLess(int person, int paper) {
            return thinkAbove(person, paper) < (bar[person] - LESS) * thinkBelow(person, paper);
        }

        private void give(int giver, int paper) {
            for (int step = 1; step < persons; step++) {
                int next = giver + step < persons ? giver + step : giver + step - persons;
                if (isUnread(next, paper)) {
                    markRead(next, paper);
                    return;
                }
            }
        }
    }

    /** What is thought through in a draft of the TOWN, so that the TOWN stays as it is. */
    private static final class Mind {
        private static final int MULTIPLIER = 1664525;
        private static final int INCREMENT = 1013904223;
        private static final int WITHOUT_SIGN = 0x7fffffff;
        private static final int COARSE = 256;
        private static final int THOUSAND = 1000;

        private final Town now;
        private final Town then;
        private int seed;

        Mind(Town town, Town draftOfTown) {
            now = town;
            then = draftOfTown;
            seed = 0;
        }

        // ---- when one should read ----

        /**
         * Nobody who has not READ a PAPER acts by what is TRUE, so it lasts equally long whatever that is:
         * the mean is THINK times the WEEKS that it lasts.
         */
        int bestWeek(int person, int paper, int n) {
            long think = now.thinkAbove(person, paper);
            int best = 0;
            long most = 0;
            for (int k = 0; k <= n; k++) {
                long sum = think * lastsIfReadAt(person, paper, n, k);
                if (k == 0 || sum > most) {
                    best = k;
                    most = sum;
                }
            }
            return best;
        }

        int lastsIfReadAt(int person, int paper, int n, int k) {
            then.become(now);
            int lasts = 0;
            for (int i = 0; i < n; i++) {
                if (i == k && then.canRead(person, paper)) {
                    then.markRead(person, paper);
                }
                lasts += then.passPaper(paper, person);
                then.endWeek();
            }
            return lasts;
        }

        // ---- profiles in which nobody would do otherwise ----

        int countRests(int paper) {
            int many = 0;
            for (int profile = 0; profile < 1 << MOST_PERSONS; profile++) {
                many += isRest(paper, profile) ? 1 : 0;
            }
            return many;
        }

        int firstRest(int paper) {
            for (int profile = 0; profile < 1 << MOST_PERSONS; profile++) {
                if (isRest(paper, profile)) {
                    return profile;
                }
            }
            return NONE;
        }

        private boolean isRest(int paper, int profile) {
            int unread = now.unreadOf(paper);
            if ((profile & ~unread) != 0) {
                return false;
            }
            for (int person = 0; person < now.personCount(); person++) {
                boolean chooses = (unread >> person & 1) != 0;
                if (chooses && wouldChange(person, paper, profile)) {
                    return false;
                }
            }
            return true;
        }

        private boolean wouldChange(int person, int paper, int profile) {
            boolean stays = isInForceBehind(paper, profile);
            boolean otherwise = isInForceBehind(paper, profile ^ 1 << person);
            if (stays == otherwise) {
                return false;
            }
            long think = now.thinkAbove(person, paper);
            return otherwise ? think > 0 : think < 0;
        }

        private boolean isInForceBehind(int paper, int profile) {
            return now.isInForceWith(paper, Integer.bitCount(now.readersOf(paper) | profile));
        }

        // ---- who ends it ----

        /** No LAW asks who has READ, so either all who have not could end it, or none. */
        int endersOf(int paper) {
            int read = Integer.bitCount(now.readersOf(paper));
            boolean couldEnd = now.isInForce(paper) && !now.isInForceWith(paper, read + 1);
            return couldEnd ? now.unreadOf(paper) : 0;
        }

        int priceOf(int person, int paper, int n) {
            if ((endersOf(paper) >> person & 1) == 0) {
                return 0;
            }
            long sum = 0;
            for (int other = 0; other < now.personCount(); other++) {
                if (other != person && now.isBound(other, paper)) {
                    sum += thinkInThousandths(other, paper);
                }
            }
            return sum < 0 ? (int) (-sum * n) : 0;
        }

        private long thinkInThousandths(int person, int paper) {
            long below = now.thinkBelow(person, paper);
            return below > 0 ? THOUSAND * now.thinkAbove(person, paper) / below : 0;
        }

        /** No LAW asks who has READ, so of all orders each one ends it in equally many, if it ends at all. */
        void weighPower(int paper, Ratio answer) {
            int binds = Integer.bitCount(now.boundBy(paper));
            boolean comesToEnd = now.isInForce(paper) && !now.isInForceWith(paper, binds);
            if (comesToEnd) {
                answer.become(1, Integer.bitCount(now.unreadOf(paper)));
            } else {
                answer.become(0, 1);
            }
        }

        // ---- by chance looks ----

        void weighChance(int paper, int hundredths, int n, Ratio answer) {
            int read = Integer.bitCount(now.readersOf(paper));
            int unread = Integer.bitCount(now.unreadOf(paper));
            long all = powerOf(ALL_HUNDREDTHS, n);
            long misses = powerOf(ALL_HUNDREDTHS - hundredths, n);
            long sum = 0;
            long ways = 1;
            for (int more = 0; more <= unread; more++) {
                if (now.isInForceWith(paper, read + more)) {
                    sum += ways * powerOf(all - misses, more) * powerOf(misses, unread - more);
                }
                ways = ways * (unread - more) / (more + 1);
            }
            answer.become(sum, powerOf(all, unread));
        }

        private static long powerOf(long base, int times) {
            long product = 1;
            for (int i = 0; i < times; i++) {
                product *= base;
            }
            return product;
        }

        // ---- how long papers last ----

        int lastsUnder(int paper, int law, int n) {
            then.become(now);
            then.changeLaw(law);
            int lasts = 0;
            for (int i = 0; i < n; i++) {
                lasts += then.passPaper(paper, NOT_ANY);
                then.endWeek();
            }
            return lasts;
        }

        int longestOf(int n) {
            int longest = NONE;
            int most = -1;
            for (int paper = 0; paper < now.paperCount(); paper++) {
                int lasts = lastsUnder(paper, now.lawNow(), n);
                if (lasts > most) {
                    longest = paper;
                    most = lasts;
                }
            }
            return longest;
        }

        // ---- weeks by seeds, and told readings ----

        int drawWeeks(int n, int z) {
            then.become(now);
            seed = z;
            for (int i = 0; i < n; i++) {
                int person = drawBelow(then.personCount());
                int paper = drawBelow(then.paperCount());
                if (then.canRead(person, paper)) {
                    then.markRead(person, paper);
                }
                then.passWeek();
            }
            return then.hadByAll() - now.hadByAll();
        }

        private int drawBelow(int most) {
            seed = seed * MULTIPLIER + INCREMENT;
            return most > 0 ? (seed & WITHOUT_SIGN) / COARSE % most : 0;
        }

        int firstThatCanNot(int paper, int[] row, int size) {
            then.become(now);
            for (int i = 0; i < size; i++) {
                if (row[i] != ROW_NOBODY) {
                    if (!then.canRead(row[i], paper)) {
                        return i;
                    }
                    then.markRead(row[i], paper);
                }
                then.passPaper(paper, NOT_ANY);
                then.endWeek();
            }
            return NONE;
        }
    }

    /** A number above a line and one below it, in least terms. */
    private static final class Ratio {
        private static final int ENOUGH_STEPS = 1000;

        private long above;
        private long below;

        Ratio() {
            above = 0;
            below = 1;
        }

        void become(long top, long bottom) {
            long common = commonOf(Math.abs(top), bottom);
            above = common > 1 ? top / common : top;
            below = common > 1 ? bottom / common : bottom;
        }

        long partOf(int part) {
            return part == 0 ? above : below;
        }

        /** The greatest number that divides both, which are not below 0. */
        static long commonOf(long a, long b) {
            long greater = a;
            long smaller = b;
            for (int i = 0; i < ENOUGH_STEPS && smaller != 0; i++) {
                long remainder = greater % smaller;
                greater = smaller;
                smaller = remainder;
            }
            return greater;
        }
    }
}
