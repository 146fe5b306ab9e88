/** The people of a town, who of them is wanted for something later, and what comes of following them. */
public final class WantedLater {
    public static final int NONE = -1, BAD = -2, NO = -3, FULL = -4;

    private static final int MOST_ACT = 5;
    private static final int FIRST_COUNTS = 3;
    private static final int KINDS = 6;
    private static final int MOST_PEOPLE = 7;
    private static final int MOST_TEMPER_AT_FIRST = 30;
    private static final int MOST_TEMPER = 99;
    private static final int MOST_BYTES = 150;
    private static final int MOST_NOTES = 6;
    private static final int NOTE_SIZE = 5;
    private static final int MOST_NOTE_DAY = 99;
    private static final int MOST_UNDONE = 8;
    private static final int PAST_SIZE = MOST_PEOPLE + 4;
    private static final int IMAGES = 2;
    private static final int MOST_DAYS = 60;
    private static final int LACK_DAYS = 30;
    private static final int MOST_TRUE_DAYS = 30;
    private static final int MOST_ROSTER = 9;
    private static final int MOST_CHOSEN_DAYS = 8;
    private static final int LOOK_DAYS = 6;
    private static final int MOST_SOURCE = 100;
    private static final int TENTHS = 10;
    private static final int MOST_SEED = 999999;
    private static final int COUNTED = 8;

    private final Town now;
    private final Town spare;
    private final Town[] images;
    private final boolean[] kept;
    private final Walk walk;
    private final Text text;
    private long above;
    private long below;
    private int refusedBad;
    private int refusedNo;
    private int refusedFull;

    public WantedLater() {
        now = new Town();
        spare = new Town();
        images = new Town[IMAGES];
        for (int i = 0; i < IMAGES; i++) {
            images[i] = new Town();
        }
        kept = new boolean[IMAGES];
        walk = new Walk();
        text = new Text();
        above = 0;
        below = 1;
    }

    // ---- a town

    public int town(int counts) {
        if (!isWithin(counts, 1, MOST_ACT)) {
            return refuseBad();
        }
        int were = now.people;
        now.begin(counts);
        return were;
    }

    public int one(int kind, int temper) {
        if (!isWithin(kind, 0, KINDS - 1) || !isWithin(temper, 0, MOST_TEMPER_AT_FIRST)) {
            return refuseBad();
        }
        if (now.people >= MOST_PEOPLE) {
            return refuseFull();
        }
        return now.addOne(kind, temper);
    }

    public int type(int c) {
        if (!isWithin(c, 0, 127)) {
            return refuseBad();
        }
        if (text.length >= MOST_BYTES) {
            return refuseFull();
        }
        return text.add(c);
    }

    public int clear() {
        int had = text.length;
        text.length = 0;
        return had;
    }

    public int read() {
        // Into the spare town first: a FAULT leaves all as it is.
        int answer = text.readInto(spare);
        if (answer >= 0) {
            now.copyFrom(spare);
        }
        return answer;
    }

    // ---- days

    public int list(int p, int is) {
        if (!isThere(p) || !isWithin(is, 0, 1)) {
            return refuseBad();
        }
        int was = bitOf(now.listed, p);
        now.keepPast();
        now.listed = withBit(now.listed, p, is);
        return was;
    }

    public int follow(int p, int is) {
        if (!isThere(p) || !isWithin(is, 0, 1)) {
            return refuseBad();
        }
        int was = bitOf(now.followed, p);
        now.keepPast();
        now.followed = withBit(now.followed, p, is);
        return was;
    }

    public int day(int n) {
        if (!isWithin(n, 1, MOST_DAYS)) {
            return refuseBad();
        }
        int struck = 0;
        for (int i = 0; i < n; i++) {
            now.keepPast();
            struck |= now.goBy(walk);
        }
        return struck;
    }

    public int undo() {
        if (now.undoable <= 0) {
            return refuseNo();
        }
        now.takePast();
        return now.day;
    }

    public int of(int p, int what) {
        if (!isThere(p) || !isWithin(what, 0, 4)) {
            return refuseBad();
        }
        switch (what) {
            case 0:
                return now.kinds[p];
            case 1:
                return now.tempers[p];
            case 2:
                return bitOf(now.listed, p);
            case 3:
                return bitOf(now.followed, p);
            default:
                return actToday(p);
        }
    }

    // ---- what comes

    public int then(int p, int m, int what) {
        if (!isThere(p) || !isWithin(m, 0, MOST_DAYS) || !isWithin(what, 0, 1)) {
            return refuseBad();
        }
        now.startWalk(walk, p);
        for (int i = 0; i < m; i++) {
            walk.goBy();
        }
        return what == 0 ? walk.actOfDay() : walk.temper;
    }

    public int when(int p) {
        if (!isThere(p)) {
            return refuseBad();
        }
        now.startWalk(walk, p);
        for (int i = 1; i <= MOST_DAYS; i++) {
            if (walk.goBy()) {
                return i;
            }
        }
        return NONE;
    }

    public int lack() {
        return whoDoIt(LACK_DAYS, true) & ~whoDoIt(LACK_DAYS, false);
    }

    public int comesTrue(int m, int what) {
        if (!isWithin(m, 1, MOST_TRUE_DAYS) || !isWithin(what, 0, 1)) {
            return refuseBad();
        }
        // On THE LIST and FOLLOWED till STRUCK, one is STRUCK just when he would do IT, FOLLOWED on all DAYS.
        int struckIfIn = whoDoIt(m, true);
        int doItIfOut = whoDoIt(m, false);
        int sets = 0;
        int least = NONE;
        for (int set = 0; set < 1 << now.people; set++) {
            if ((set & ~struckIfIn) == 0 && (doItIfOut & ~set) == 0) {
                sets++;
                least = least == NONE ? set : least;
            }
        }
        return what == 0 ? sets : least;
    }

    public int readings() {
        int bits = 0;
        for (int counts = 1; counts <= MOST_ACT; counts++) {
            int doIt = 0;
            for (int p = 0; p < now.people; p++) {
                doIt = withBit(doIt, p, actToday(p) >= counts ? 1 : 0);
            }
            bits = withBit(bits, counts, doIt == now.listed ? 1 : 0);
        }
        return bits;
    }

    public int roster(int n, int d) {
        if (!isWithin(n, 1, MOST_ROSTER) || !isWithin(d, 0, MOST_ROSTER)) {
            return refuseBad();
        }
        if (d > n) {
            return NONE;
        }
        // Given out in turn, DAY behind DAY, no one's d DAYS fall together, so the whole rounded up is enough.
        return (Integer.bitCount(now.listed) * d + n - 1) / n;
    }

    public int off(int p, int n, int what) {
        if (!isThere(p) || !isWithin(n, 1, MOST_CHOSEN_DAYS) || !isWithin(what, 0, 1)) {
            return refuseBad();
        }
        if (bitOf(now.listed, p) == 0) {
            return refuseNo();
        }
        int days = fewestDays(p, n);
        return what == 1 || days == NONE ? days : Integer.bitCount(days);
    }

    public int rests(int p) {
        if (!isThere(p)) {
            return refuseBad();
        }
        int bits = 0;
        for (int pair = 0; pair < 4; pair++) {
            // Bit 0 of a pair is what the one chooses, bit 1 what his FOLLOWER does.
            boolean oneStays = paysOne(p, pair ^ 1) <= paysOne(p, pair);
            boolean followerStays = paysFollower(p, pair ^ 2) <= paysFollower(p, pair);
            bits = withBit(bits, pair, oneStays && followerStays ? 1 : 0);
        }
        return bits;
    }

    // ---- what he did

    public int note(int p, int d, int followed, int t, int a) {
        if (!isThere(p) || !isWithin(d, 0, MOST_NOTE_DAY) || !isWithin(followed, 0, 1)
                || !isWithin(t, 0, MOST_TEMPER) || !isWithin(a, 0, MOST_ACT)) {
            return refuseBad();
        }
        if (now.noted >= MOST_NOTES) {
            return refuseFull();
        }
        return now.addNote(p, d, followed, t, a);
    }

    public int forget() {
        int were = now.noted;
        now.noted = 0;
        return were;
    }

    public int is(int p) {
        if (!isThere(p)) {
            return refuseBad();
        }
        return now.kindsByNotes(p);
    }

    public int look(int p, int t) {
        if (!isThere(p) || !isWithin(t, 0, MOST_TEMPER)) {
            return refuseBad();
        }
        int kinds = now.kindsByNotes(p);
        if (kinds == 0) {
            return NONE;
        }
        int best = 0;
        int fewest = KINDS + 1;
        for (int way = 0; way < 2 * LOOK_DAYS; way++) {
            int alike = mostAlike(kinds, way % LOOK_DAYS, way >= LOOK_DAYS, t);
            if (alike < fewest) {
                fewest = alike;
                best = way;
            }
        }
        return best;
    }

    public int source(int what) {
        if (!isWithin(what, 0, 1)) {
            return refuseBad();
        }
        return what == 0 ? tempersOfSource() : kindsOfSource();
    }

    public int odds(int p, int n, int c) {
        if (!isThere(p) || !isWithin(n, 0, MOST_CHOSEN_DAYS) || !isWithin(c, 0, TENTHS)) {
            return refuseBad();
        }
        if (bitOf(now.listed, p) == 0) {
            return refuseNo();
        }
        long struck = 0;
        long all = 0;
        for (int days = 0; days < 1 << n; days++) {
            long weight = 1;
            for (int i = 0; i < n; i++) {
                weight *= bitOf(days, i) == 1 ? c : TENTHS - c;
            }
            all += weight;
            struck += isStruckBy(p, n, days) ? weight : 0;
        }
        setFraction(struck, all);
        return 1;
    }

    public int years(int seed, int n) {
        if (!isWithin(seed, 0, MOST_SEED) || !isWithin(n, 0, MOST_DAYS)) {
            return refuseBad();
        }
        spare.copyFrom(now);
        long x = seed;
        int struck = 0;
        for (int i = 0; i < n; i++) {
            for (int p = 0; p < spare.people; p++) {
                x = (x * 1103515245L + 12345L) % 2147483648L;
                spare.followed = withBit(spare.followed, p, (int) (x / 65536L % 2L));
            }
            struck += Integer.bitCount(spare.goBy(walk));
        }
        return struck;
    }

    // ---- what there is

    public long part(int what) {
        if (!isWithin(what, 0, 1)) {
            return refuseBad();
        }
        return what == 0 ? above : below;
    }

    public int image(int i) {
        if (!isWithin(i, 0, IMAGES - 1)) {
            return refuseBad();
        }
        images[i].copyFrom(now);
        kept[i] = true;
        return 1;
    }

    public int from(int i) {
        if (!isWithin(i, 0, IMAGES - 1)) {
            return refuseBad();
        }
        if (!kept[i]) {
            return refuseNo();
        }
        now.copyFrom(images[i]);
        return 1;
    }

    public int status(int what) {
        switch (what) {
            case 0:
                return refusedBad;
            case 1:
                return refusedNo;
            case 2:
                return refusedFull;
            default:
                refuseBad();
                return -1;
        }
    }

    public int count(int what) {
        if (!isWithin(what, 0, COUNTED - 1)) {
            return refuseBad();
        }
        return howMany(what);
    }

    public long digest() {
        long h = 1213;
        for (int what = 0; what < COUNTED; what++) {
            h = 31 * h + howMany(what);
        }
        h = 31 * h + now.counts;
        for (int p = 0; p < now.people; p++) {
            h = 31 * h + now.kinds[p];
            h = 31 * h + now.tempers[p];
            h = 31 * h + bitOf(now.listed, p);
            h = 31 * h + bitOf(now.followed, p);
        }
        for (int i = 0; i < now.noted * NOTE_SIZE; i++) {
            h = 31 * h + now.notes[i];
        }
        h = 31 * h + above;
        return 31 * h + below;
    }

    // ---- refusing, and looking at arguments

    private int refuseBad() {
        refusedBad++;
        return BAD;
    }

    private int refuseNo() {
        refusedNo++;
        return NO;
    }

    private int refuseFull() {
        refusedFull++;
        return FULL;
    }

    private boolean isThere(int p) {
        return isWithin(p, 0, now.people - 1);
    }

    private static boolean isWithin(int v, int least, int most) {
        return v >= least && v <= most;
    }

    private static int bitOf(int bits, int i) {
        return bits >> i & 1;
    }

    private static int withBit(int bits, int i, int is) {
        return is == 1 ? bits | 1 << i : bits & ~(1 << i);
    }

    // ---- what the public calls ask

    private int howMany(int what) {
        switch (what) {
            case 0:
                return now.people;
            case 1:
                return now.day;
            case 2:
                return Integer.bitCount(now.listed);
            case 3:
                return Integer.bitCount(now.followed);
            case 4:
                return now.struck;
            case 5:
                return now.noted;
            case 6:
                return now.undoable;
            default:
                return text.length;
        }
    }

    private int actToday(int p) {
        now.startWalk(walk, p);
        return walk.actOfDay();
    }

    /** PEOPLE (bits) who, on no LIST, would do IT on some of the next m DAYS, FOLLOWED on all of them or never. */
    private int whoDoIt(int m, boolean followed) {
        int bits = 0;
        for (int p = 0; p < now.people; p++) {
            bits = withBit(bits, p, wouldDoIt(p, m, followed) ? 1 : 0);
        }
        return bits;
    }

    private boolean wouldDoIt(int p, int m, boolean followed) {
        now.startWalk(walk, p);
        walk.listed = false;
        walk.followed = followed;
        for (int i = 0; i < m; i++) {
            if (walk.doesIt()) {
                return true;
            }
            walk.goBy();
        }
        return false;
    }

    /** Whether one on THE LIST is STRUCK in the next n DAYS, FOLLOWED on just these days (bits). */
    private boolean isStruckBy(int p, int n, int days) {
        now.startWalk(walk, p);
        for (int i = 0; i < n; i++) {
            walk.followed = bitOf(days, i) == 1;
            if (walk.goBy()) {
                return true;
            }
        }
        return false;
    }

    private int fewestDays(int p, int n) {
        int best = NONE;
        for (int days = 0; days < 1 << n; days++) {
            boolean fewer = best == NONE || Integer.bitCount(days) < Integer.bitCount(best);
            if (fewer && isStruckBy(p, n, days)) {
                best = days;
            }
        }
        return best;
    }

    private static boolean isFollowedIn(int pair) {
        return (pair & 2) == 0;
    }

    private boolean isItIn(int p, int pair) {
        boolean doesAct = (pair & 1) == 0;
        int act = doesAct ? actOf(now.kinds[p], now.day, isFollowedIn(pair), now.tempers[p]) : 0;
        return act >= now.counts;
    }

    private int paysOne(int p, int pair) {
        if (!isFollowedIn(pair)) {
            return 1;
        }
        return isItIn(p, pair) ? 2 : 0;
    }

    private int paysFollower(int p, int pair) {
        if (isFollowedIn(pair)) {
            return 0;
        }
        return isItIn(p, pair) ? -1 : 1;
    }

    private static int mostAlike(int kinds, int day, boolean followed, int temper) {
        int most = 0;
        for (int kind = 0; kind < KINDS; kind++) {
            int act = actOf(kind, day, followed, temper);
            int alike = 0;
            for (int other = 0; other < KINDS; other++) {
                if (bitOf(kinds, other) == 1 && actOf(other, day, followed, temper) == act) {
                    alike++;
                }
            }
            most = Math.max(most, alike);
        }
        return most;
    }

    private int tempersOfSource() {
        int fit = 0;
        for (int v = 0; v <= MOST_SOURCE; v++) {
            int those = 0;
            for (int p = 0; p < now.people; p++) {
                those = withBit(those, p, now.tempers[p] >= v ? 1 : 0);
            }
            if (those == now.listed) {
                fit++;
            }
        }
        return fit;
    }

    private int kindsOfSource() {
        for (int kind = 0; kind < KINDS; kind++) {
            int those = 0;
            for (int p = 0; p < now.people; p++) {
                those = withBit(those, p, now.kinds[p] == kind ? 1 : 0);
            }
            int listed = those & now.listed;
            if (listed != 0 && listed != those) {
                return 0;
            }
        }
        return 1;
    }

    private void setFraction(long over, long under) {
        long a = over;
        long b = under;
        // Euclid's rests at least halve in two steps, so a long needs far fewer rounds than this.
        for (int i = 0; i < 200 && b != 0; i++) {
            long rest = a % b;
            a = b;
            b = rest;
        }
        if (a > 0) {
            above = over / a;
            below = under / a;
        }
    }

    // ---- KINDS

    /** The ACT that one of a KIND does; kinds stand under PLAIN, SAINT and TURNS, so these come first. */
    private static int actOf(int kind, int day, boolean followed, int temper) {
        int plain = Math.min(temper / 6, MOST_ACT);
        int saint = Math.max(plain - 2, 0);
        int turns = followed ? Math.min(plain + 1, MOST_ACT) : plain;
        switch (kind) {
            case 0:
                return plain;
            case 1:
                return saint;
            case 2:
                return followed ? 0 : plain;
            case 3:
                return turns;
            case 4:
                return day % 3 == 0 ? Math.max(saint, 1) : saint;
            default:
                return day % 2 == 0 ? 0 : turns;
        }
    }

    /** How much more TEMPER one of a KIND has behind a DAY on which one is FOLLOWED. */
    private static int moreOf(int kind) {
        switch (kind) {
            case 0:
                return 2;
            case 1:
                return 0;
            case 2:
            case 4:
                return 1;
            default:
                return 4;
        }
    }

    /** One of the PEOPLE alone, as DAYS go by; the town he is from stays as it is. */
    private static final class Walk {
        int kind;
        int temper;
        int counts;
        int day;
        boolean listed;
        boolean followed;

        int actOfDay() {
            return actOf(kind, day, followed, temper);
        }

        boolean doesIt() {
            return actOf(kind, day, followed, temper) >= counts;
        }

        /** A DAY goes by: whether he is STRUCK on it. */
        boolean goBy() {
            boolean struck = listed && followed && doesIt();
            int behind = followed ? temper + moreOf(kind) : temper - 1;
            temper = Math.max(0, Math.min(behind, MOST_TEMPER));
            day++;
            if (struck) {
                listed = false;
                followed = false;
            }
            return struck;
        }
    }

    /** All that an IMAGE keeps. */
    private static final class Town {
        int counts = FIRST_COUNTS;
        int people;
        int day;
        int listed;
        int followed;
        int struck;
        int noted;
        int undoable;
        final int[] kinds = new int[MOST_PEOPLE];
        final int[] tempers = new int[MOST_PEOPLE];
        final int[] notes = new int[MOST_NOTES * NOTE_SIZE];
        final int[] past = new int[MOST_UNDONE * PAST_SIZE];

        void begin(int least) {
            counts = least;
            people = 0;
            day = 0;
            listed = 0;
            followed = 0;
            struck = 0;
            noted = 0;
            undoable = 0;
        }

        void copyFrom(Town other) {
            counts = other.counts;
            people = other.people;
            day = other.day;
            listed = other.listed;
            followed = other.followed;
            struck = other.struck;
            noted = other.noted;
            undoable = other.undoable;
            System.arraycopy(other.kinds, 0, kinds, 0, kinds.length);
            System.arraycopy(other.tempers, 0, tempers, 0, tempers.length);
            System.arraycopy(other.notes, 0, notes, 0, notes.length);
            System.arraycopy(other.past, 0, past, 0, past.length);
        }

        /** One comes, while there is room: his number. */
        int addOne(int kind, int temper) {
            if (people >= MOST_PEOPLE) {
                return NONE;
            }
            kinds[people] = kind;
            tempers[people] = temper;
            undoable = 0;
            people++;
            return people - 1;
        }

        /** A NOTE, while there is room: how many there are. */
        int addNote(int p, int d, int wasFollowed, int t, int a) {
            if (noted >= MOST_NOTES) {
                return noted;
            }
            int at = noted * NOTE_SIZE;
            notes[at] = p;
            notes[at + 1] = d;
            notes[at + 2] = wasFollowed;
            notes[at + 3] = t;
            notes[at + 4] = a;
            noted++;
            return noted;
        }

        boolean isNoteSo(int i, int kind) {
            int at = i * NOTE_SIZE;
            return actOf(kind, notes[at + 1], notes[at + 2] == 1, notes[at + 3]) == notes[at + 4];
        }

        int kindsByNotes(int p) {
            int bits = 0;
            for (int kind = 0; kind < KINDS; kind++) {
                boolean fits = true;
                for (int i = 0; i < noted; i++) {
                    fits = fits && (notes[i * NOTE_SIZE] != p || isNoteSo(i, kind));
                }
                bits = withBit(bits, kind, fits ? 1 : 0);
            }
            return bits;
        }

        void startWalk(Walk walk, int p) {
            walk.kind = kinds[p];
            walk.temper = tempers[p];
            walk.counts = counts;
            walk.day = day;
            walk.listed = bitOf(listed, p) == 1;
            walk.followed = bitOf(followed, p) == 1;
        }

        /** A DAY goes by: who is STRUCK on it (bits). */
        int goBy(Walk walk) {
            int bits = 0;
            for (int p = 0; p < people; p++) {
                startWalk(walk, p);
                bits = withBit(bits, p, walk.goBy() ? 1 : 0);
                tempers[p] = walk.temper;
            }
            listed &= ~bits;
            followed &= ~bits;
            struck += Integer.bitCount(bits);
            day++;
            return bits;
        }

        /** Keeps what may be undone; the oldest gives way. */
        void keepPast() {
            if (undoable >= MOST_UNDONE) {
                System.arraycopy(past, PAST_SIZE, past, 0, (MOST_UNDONE - 1) * PAST_SIZE);
                undoable = MOST_UNDONE - 1;
            }
            int at = undoable * PAST_SIZE;
            System.arraycopy(tempers, 0, past, at, MOST_PEOPLE);
            past[at + MOST_PEOPLE] = listed;
            past[at + MOST_PEOPLE + 1] = followed;
            past[at + MOST_PEOPLE + 2] = struck;
            past[at + MOST_PEOPLE + 3] = day;
            undoable++;
        }

        void takePast() {
            if (undoable <= 0) {
                return;
            }
            undoable--;
            int at = undoable * PAST_SIZE;
            System.arraycopy(past, at, tempers, 0, MOST_PEOPLE);
            listed = past[at + MOST_PEOPLE];
            followed = past[at + MOST_PEOPLE + 1];
            struck = past[at + MOST_PEOPLE + 2];
            day = past[at + MOST_PEOPLE + 3];
        }
    }

    /** THE TEXT, and its TOKENS as they are read, one by one. */
    private static final class Text {
        private static final int END = 0, WORD = 1, NUMBER = 2, STOP = 3, FOREIGN = 4;
        private static final int FAULT_AT_0 = -10;
        private static final int MOST_FIGURES = 2;

        private final byte[] bytes = new byte[MOST_BYTES];
        int length;
        private int start;
        private int behind;
        private int sort;
        private int number;

        /** A byte comes, while there is room: how many there are. */
        int add(int c) {
            if (length < MOST_BYTES) {
                bytes[length] = (byte) c;
                length++;
            }
            return length;
        }

        /** How many ITEMS there are, all told to the town; or -10 less the FAULT. */
        int readInto(Town town) {
            town.begin(FIRST_COUNTS);
            behind = 0;
            // An ITEM takes some bytes, so there are fewer of them than bytes.
            for (int items = 0; items <= MOST_BYTES; items++) {
                takeToken();
                if (items > 0 && sort == END) {
                    return items;
                }
                if (!takesItem(town, items == 0)) {
                    break;
                }
            }
            return FAULT_AT_0 - start;
        }

        private boolean takesItem(Town town, boolean first) {
            if (isWord("town") != first) {
                return false;
            }
            if (first) {
                return takesTown(town);
            }
            if (isWord("one")) {
                return takesOne(town);
            }
            if (isWord("list")) {
                return takesListed(town);
            }
            return isWord("follow") && takesFollowed(town);
        }

        private boolean takesTown(Town town) {
            if (!takesNumber(1, MOST_ACT)) {
                return false;
            }
            town.counts = number;
            return takesStop();
        }

        private boolean takesOne(Town town) {
            if (town.people >= MOST_PEOPLE || !takesNumber(0, KINDS - 1)) {
                return false;
            }
            int kind = number;
            if (!takesNumber(0, MOST_TEMPER_AT_FIRST)) {
                return false;
            }
            town.addOne(kind, number);
            return takesStop();
        }

        private boolean takesListed(Town town) {
            if (!takesNumber(0, town.people - 1)) {
                return false;
            }
            town.listed = withBit(town.listed, number, 1);
            return takesStop();
        }

        private boolean takesFollowed(Town town) {
            if (!takesNumber(0, town.people - 1)) {
                return false;
            }
            town.followed = withBit(town.followed, number, 1);
            return takesStop();
        }

        private boolean takesNumber(int least, int most) {
            takeToken();
            if (sort != NUMBER) {
                return false;
            }
            number = 0;
            for (int i = start; i < behind; i++) {
                number = 10 * number + (bytes[i] - '0');
            }
            return isWithin(number, least, most);
        }

        private boolean takesStop() {
            takeToken();
            return sort == STOP;
        }

        private boolean isWord(String word) {
            if (sort != WORD || behind - start != word.length()) {
                return false;
            }
            for (int i = 0; i < word.length(); i++) {
                if (bytes[start + i] != word.charAt(i)) {
                    return false;
                }
            }
            return true;
        }

        /** The next TOKEN, from start to the byte ahead of behind; start is the length at the end. */
        private void takeToken() {
            start = behind;
            while (start < length && bytes[start] == ' ') {
                start++;
            }
            behind = start;
            sort = start < length ? sortOf(bytes[start]) : END;
            if (sort == STOP || sort == FOREIGN) {
                behind++;
                return;
            }
            while (behind < length && sortOf(bytes[behind]) == sort) {
                behind++;
            }
            if (sort == NUMBER && behind - start > MOST_FIGURES) {
                sort = FOREIGN;
            }
        }

        private static int sortOf(int c) {
            if (c >= 'a' && c <= 'z') {
                return WORD;
            }
            if (c >= '0' && c <= '9') {
                return NUMBER;
            }
            return c == ';' ? STOP : FOREIGN;
        }
    }
}
