import java.math.BigInteger;
import java.util.ArrayDeque;
import java.util.ArrayList;
import java.util.Arrays;
import java.util.Deque;
import java.util.HashSet;
import java.util.List;
import java.util.Set;
import java.util.TreeSet;
import java.util.regex.Matcher;
import java.util.regex.Pattern;

/**
 * The document once more, word by word and by other means than the class: whole towns gone through DAY by DAY,
 * sets tried one by one, rosters made out in full. It answers every call by its name and arguments.
 */
final class LiteralTown {
    private static final int NONE = -1, BAD = -2, NO = -3, FULL = -4;

    /** KINDS, each under the one told. */
    private static class Plain {
        int act(int d, boolean followed, int t) {
            int act = t / 6;
            return act > 5 ? 5 : act;
        }

        int more() {
            return 2;
        }
    }

    private static class Saint extends Plain {
        int act(int d, boolean followed, int t) {
            int act = super.act(d, followed, t) - 2;
            return act < 0 ? 0 : act;
        }

        int more() {
            return 0;
        }
    }

    private static class Dentist extends Plain {
        int act(int d, boolean followed, int t) {
            return followed ? 0 : super.act(d, followed, t);
        }

        int more() {
            return super.more() - 1;
        }
    }

    private static class Turns extends Plain {
        int act(int d, boolean followed, int t) {
            int act = super.act(d, followed, t) + (followed ? 1 : 0);
            return act > 5 ? 5 : act;
        }

        int more() {
            return 2 * super.more();
        }
    }

    private static class Kisser extends Saint {
        int act(int d, boolean followed, int t) {
            int act = super.act(d, followed, t);
            return d % 3 == 0 && act < 1 ? 1 : act;
        }

        int more() {
            return super.more() + 1;
        }
    }

    private static class Newcomer extends Turns {
        int act(int d, boolean followed, int t) {
            return d % 2 == 0 ? 0 : super.act(d, followed, t);
        }
    }

    private static final Plain[] KINDS =
        {new Plain(), new Saint(), new Dentist(), new Turns(), new Kisser(), new Newcomer()};

    private static final class Person {
        int kind, temper;
        boolean listed, followed;

        Person copy() {
            Person p = new Person();
            p.kind = kind;
            p.temper = temper;
            p.listed = listed;
            p.followed = followed;
            return p;
        }
    }

    /** COUNTS, PEOPLE, the DAY, STRUCK, NOTES, what may be undone. */
    private static final class World {
        int counts = 3, day, struck;
        List<Person> people = new ArrayList<>();
        List<int[]> notes = new ArrayList<>();
        Deque<World> past = new ArrayDeque<>();

        World copyWithoutPast() {
            World w = new World();
            w.counts = counts;
            w.day = day;
            w.struck = struck;
            for (Person p : people) {
                w.people.add(p.copy());
            }
            w.notes.addAll(notes);
            return w;
        }

        World copy() {
            World w = copyWithoutPast();
            w.past.addAll(past);
            return w;
        }

        void keep() {
            past.addLast(copyWithoutPast());
            if (past.size() > 8) {
                past.removeFirst();
            }
        }

        int actOf(int p) {
            Person one = people.get(p);
            return KINDS[one.kind].act(day, one.followed, one.temper);
        }

        /** One DAY: the set of those STRUCK. */
        Set<Integer> goBy() {
            int[] acts = new int[people.size()];
            for (int p = 0; p < acts.length; p++) {
                acts[p] = actOf(p);
            }
            Set<Integer> out = new TreeSet<>();
            for (int p = 0; p < acts.length; p++) {
                Person one = people.get(p);
                boolean was = one.followed;
                if (one.listed && one.followed && acts[p] >= counts) {
                    out.add(p);
                    one.listed = false;
                    one.followed = false;
                    struck++;
                }
                one.temper += was ? KINDS[one.kind].more() : -1;
                one.temper = one.temper < 0 ? 0 : one.temper > 99 ? 99 : one.temper;
            }
            day++;
            return out;
        }

        Set<Integer> onList() {
            Set<Integer> set = new TreeSet<>();
            for (int p = 0; p < people.size(); p++) {
                if (people.get(p).listed) {
                    set.add(p);
                }
            }
            return set;
        }
    }

    private World now = new World();
    private final World[] images = new World[2];
    private final StringBuilder text = new StringBuilder();
    private BigInteger above = BigInteger.ZERO, below = BigInteger.ONE;
    private int bad, no, full;

    private static int bits(Set<Integer> set) {
        int b = 0;
        for (int i : set) {
            b += 1 << i;
        }
        return b;
    }

    private boolean there(int p) {
        return p >= 0 && p < now.people.size();
    }

    private static boolean in(int v, int least, int most) {
        return least <= v && v <= most;
    }

    /** What a call answers, by its name and its arguments. */
    long call(String name, int... a) {
        if (isBad(name, a)) {
            bad++;
            return name.equals("status") ? -1 : BAD;
        }
        if (isNo(name, a)) {
            no++;
            return NO;
        }
        if (isFull(name)) {
            full++;
            return FULL;
        }
        return answer(name, a);
    }

    private boolean isBad(String name, int[] a) {
        switch (name) {
            case "town": return !in(a[0], 1, 5);
            case "one": return !in(a[0], 0, 5) || !in(a[1], 0, 30);
            case "type": return !in(a[0], 0, 127);
            case "list":
            case "follow": return !there(a[0]) || !in(a[1], 0, 1);
            case "day": return !in(a[0], 1, 60);
            case "of": return !there(a[0]) || !in(a[1], 0, 4);
            case "then": return !there(a[0]) || !in(a[1], 0, 60) || !in(a[2], 0, 1);
            case "when":
            case "rests":
            case "is": return !there(a[0]);
            case "comesTrue": return !in(a[0], 1, 30) || !in(a[1], 0, 1);
            case "roster": return !in(a[0], 1, 9) || !in(a[1], 0, 9);
            case "off": return !there(a[0]) || !in(a[1], 1, 8) || !in(a[2], 0, 1);
            case "note": return !there(a[0]) || !in(a[1], 0, 99) || !in(a[2], 0, 1) || !in(a[3], 0, 99) || !in(a[4], 0, 5);
            case "look": return !there(a[0]) || !in(a[1], 0, 99);
            case "source":
            case "part":
            case "image":
            case "from": return !in(a[0], 0, 1);
            case "odds": return !there(a[0]) || !in(a[1], 0, 8) || !in(a[2], 0, 10);
            case "years": return !in(a[0], 0, 999999) || !in(a[1], 0, 60);
            case "status": return !in(a[0], 0, 2);
            case "count": return !in(a[0], 0, 7);
            default: return false;
        }
    }

    private boolean isNo(String name, int[] a) {
        switch (name) {
            case "undo": return now.past.isEmpty();
            case "off":
            case "odds": return !now.people.get(a[0]).listed;
            case "from": return images[a[0]] == null;
            default: return false;
        }
    }

    private boolean isFull(String name) {
        switch (name) {
            case "one": return now.people.size() == 7;
            case "type": return text.length() == 150;
            case "note": return now.notes.size() == 6;
            default: return false;
        }
    }

    private long answer(String name, int[] a) {
        switch (name) {
            case "town": return town(a[0]);
            case "one": return one(a[0], a[1]);
            case "type": return text.append((char) a[0]).length();
            case "clear": return clear();
            case "read": return read();
            case "list": return list(a[0], a[1] == 1);
            case "follow": return follow(a[0], a[1] == 1);
            case "day": return day(a[0]);
            case "undo": return undo();
            case "of": return of(now.people.get(a[0]), a[0], a[1]);
            case "then": return then(a[0], a[1], a[2]);
            case "when": return when(a[0]);
            case "lack": return lack();
            case "comesTrue": return comesTrue(a[0], a[1]);
            case "readings": return readings();
            case "roster": return roster(now.onList().size(), a[0], a[1]);
            case "off": return off(a[0], a[1], a[2]);
            case "rests": return rests(a[0]);
            case "note": now.notes.add(a.clone()); return now.notes.size();
            case "forget": return forget();
            case "is": return bits(kinds(a[0]));
            case "look": return look(a[0], a[1]);
            case "source": return a[0] == 0 ? sourceTempers() : sourceKinds();
            case "odds": return odds(a[0], a[1], a[2]);
            case "years": return years(a[0], a[1]);
            case "part": return (a[0] == 0 ? above : below).longValueExact();
            case "image": images[a[0]] = now.copy(); return 1;
            case "from": now = images[a[0]].copy(); return 1;
            case "status": return a[0] == 0 ? bad : a[0] == 1 ? no : full;
            case "count": return count(a[0]);
            case "digest": return digest();
            default: throw new IllegalArgumentException(name);
        }
    }

    private int town(int counts) {
        int were = now.people.size();
        now = new World();
        now.counts = counts;
        return were;
    }

    private static void comes(World w, int kind, int temper) {
        Person p = new Person();
        p.kind = kind;
        p.temper = temper;
        w.people.add(p);
        w.past.clear();
    }

    private int one(int kind, int temper) {
        comes(now, kind, temper);
        return now.people.size() - 1;
    }

    private int clear() {
        int had = text.length();
        text.setLength(0);
        return had;
    }

    /** The pattern of a TOKEN, of any number of figures; what else is found is one byte. */
    private static final Pattern TOKEN = Pattern.compile("[a-z]+|[0-9]+|;|[^ ]", Pattern.DOTALL);

    private int read() {
        List<String> tokens = new ArrayList<>();
        List<Integer> places = new ArrayList<>();
        Matcher m = TOKEN.matcher(text);
        while (m.find()) {
            tokens.add(m.group());
            places.add(m.start());
        }
        places.add(text.length());
        World w = new World();
        int items = 0;
        int at = 0;
        while (at < tokens.size() || items == 0) {
            String form = at < tokens.size() ? formOf(tokens.get(at), items, w) : null;
            if (form == null) {
                return -10 - places.get(at);
            }
            int[] told = new int[2];
            int numbers = 0;
            at++;
            for (char c : form.toCharArray()) {
                if (at >= tokens.size() || !fits(c, tokens.get(at), w)) {
                    return -10 - places.get(at);
                }
                if (c != ';') {
                    told[numbers++] = Integer.parseInt(tokens.get(at));
                }
                at++;
            }
            tell(w, form, tokens.get(at - form.length() - 1), told);
            items++;
        }
        now = w;
        return items;
    }

    /** What follows a word: c COUNTS, k a KIND, t a TEMPER, p one, and the end of the ITEM. */
    private static String formOf(String word, int items, World w) {
        if (items == 0) {
            return word.equals("town") ? "c;" : null;
        }
        if (word.equals("one")) {
            return w.people.size() < 7 ? "kt;" : null;
        }
        return word.equals("list") || word.equals("follow") ? "p;" : null;
    }

    private static boolean fits(char c, String token, World w) {
        if (c == ';') {
            return token.equals(";");
        }
        if (!token.matches("[0-9]{1,2}")) {
            return false;
        }
        int v = Integer.parseInt(token);
        return c == 'c' ? in(v, 1, 5) : c == 'k' ? v <= 5 : c == 't' ? v <= 30 : v < w.people.size();
    }

    private static void tell(World w, String form, String word, int[] told) {
        if (word.equals("town")) {
            w.counts = told[0];
        } else if (word.equals("one")) {
            comes(w, told[0], told[1]);
        } else if (word.equals("list")) {
            w.people.get(told[0]).listed = true;
        } else {
            w.people.get(told[0]).followed = true;
        }
    }

    private int list(int p, boolean is) {
        boolean was = now.people.get(p).listed;
        now.keep();
        now.people.get(p).listed = is;
        return was ? 1 : 0;
    }

    private int follow(int p, boolean is) {
        boolean was = now.people.get(p).followed;
        now.keep();
        now.people.get(p).followed = is;
        return was ? 1 : 0;
    }

    private int day(int n) {
        Set<Integer> struck = new TreeSet<>();
        for (int i = 0; i < n; i++) {
            now.keep();
            struck.addAll(now.goBy());
        }
        return bits(struck);
    }

    private int undo() {
        World ago = now.past.removeLast().copyWithoutPast();
        ago.past = now.past;
        ago.notes = now.notes;
        now = ago;
        return now.day;
    }

    private int of(Person one, int p, int what) {
        int[] row = {one.kind, one.temper, one.listed ? 1 : 0, one.followed ? 1 : 0, now.actOf(p)};
        return row[what];
    }

    private int then(int p, int m, int what) {
        World w = now.copyWithoutPast();
        for (int i = 0; i < m; i++) {
            w.goBy();
        }
        return what == 0 ? w.actOf(p) : w.people.get(p).temper;
    }

    private int when(int p) {
        World w = now.copyWithoutPast();
        for (int i = 1; i <= 60; i++) {
            if (w.goBy().contains(p)) {
                return i;
            }
        }
        return NONE;
    }

    private int lack() {
        Set<Integer> lacking = new TreeSet<>();
        World on = now.copyWithoutPast();
        World off = now.copyWithoutPast();
        for (int p = 0; p < now.people.size(); p++) {
            on.people.get(p).listed = false;
            on.people.get(p).followed = true;
            off.people.get(p).listed = false;
            off.people.get(p).followed = false;
        }
        Set<Integer> never = new TreeSet<>();
        for (int i = 0; i < 30; i++) {
            for (int p = 0; p < now.people.size(); p++) {
                if (on.actOf(p) >= now.counts) {
                    lacking.add(p);
                }
                if (off.actOf(p) >= now.counts) {
                    never.add(p);
                }
            }
            on.goBy();
            off.goBy();
        }
        lacking.removeAll(never);
        return bits(lacking);
    }

    private boolean isTrue(int set, int m) {
        World w = now.copyWithoutPast();
        for (int p = 0; p < w.people.size(); p++) {
            w.people.get(p).listed = (set >> p & 1) == 1;
            w.people.get(p).followed = (set >> p & 1) == 1;
        }
        int struck = 0;
        for (int i = 0; i < m; i++) {
            for (int p = 0; p < w.people.size(); p++) {
                if ((set >> p & 1) == 0 && w.actOf(p) >= w.counts) {
                    return false;
                }
            }
            struck |= bits(w.goBy());
        }
        return struck == set;
    }

    private int comesTrue(int m, int what) {
        List<Integer> sets = new ArrayList<>();
        for (int set = 0; set < 1 << now.people.size(); set++) {
            if (isTrue(set, m)) {
                sets.add(set);
            }
        }
        return what == 0 ? sets.size() : sets.isEmpty() ? NONE : sets.get(0);
    }

    private int readings() {
        int b = 0;
        for (int counts = 1; counts <= 5; counts++) {
            Set<Integer> doing = new TreeSet<>();
            for (int p = 0; p < now.people.size(); p++) {
                if (now.actOf(p) >= counts) {
                    doing.add(p);
                }
            }
            if (doing.equals(now.onList())) {
                b += 1 << counts;
            }
        }
        return b;
    }

    private static final int[][][] ROSTERS = new int[8][10][10];

    static {
        for (int[][] rows : ROSTERS) {
            for (int[] row : rows) {
                Arrays.fill(row, -9);
            }
        }
    }

    private static int roster(int many, int n, int d) {
        if (ROSTERS[many][n][d] == -9) {
            ROSTERS[many][n][d] = rosterInFull(many, n, d);
        }
        return ROSTERS[many][n][d];
    }

    /** Of all ways to give each of them d DAYS of n, the least that the fullest DAY must have. */
    private static int rosterInFull(int many, int n, int d) {
        if (d > n) {
            return NONE;
        }
        Set<String> loads = new HashSet<>(Set.of("0".repeat(n)));
        for (int i = 0; i < many; i++) {
            Set<String> next = new HashSet<>();
            for (String load : loads) {
                for (int days = 0; days < 1 << n; days++) {
                    if (Integer.bitCount(days) == d) {
                        next.add(withDays(load, days));
                    }
                }
            }
            loads = next;
        }
        int fewest = NONE;
        for (String load : loads) {
            int most = load.chars().max().getAsInt() - '0';
            fewest = fewest == NONE ? most : Math.min(fewest, most);
        }
        return fewest;
    }

    private static String withDays(String load, int days) {
        char[] c = load.toCharArray();
        for (int i = 0; i < c.length; i++) {
            c[i] += (char) (days >> i & 1);
        }
        Arrays.sort(c);
        return new String(c);
    }

    private boolean struckBy(int p, int n, int days) {
        World w = now.copyWithoutPast();
        for (int i = 0; i < n; i++) {
            w.people.get(p).followed = (days >> i & 1) == 1;
            if (w.goBy().contains(p)) {
                return true;
            }
        }
        return false;
    }

    private int off(int p, int n, int what) {
        for (int many = 0; many <= n; many++) {
            for (int days = 0; days < 1 << n; days++) {
                if (Integer.bitCount(days) == many && struckBy(p, n, days)) {
                    return what == 0 ? many : days;
                }
            }
        }
        return NONE;
    }

    /** To the one and to the FOLLOWER, by what they do. */
    private int[] pays(int p, boolean act, boolean followed) {
        Person one = now.people.get(p);
        boolean it = act && KINDS[one.kind].act(now.day, followed, one.temper) >= now.counts;
        return new int[] {followed ? it ? 2 : 0 : 1, followed ? 0 : it ? -1 : 1};
    }

    private int rests(int p) {
        int b = 0;
        boolean[][] pairs = {{true, true}, {false, true}, {true, false}, {false, false}};
        for (int i = 0; i < 4; i++) {
            boolean act = pairs[i][0];
            boolean followed = pairs[i][1];
            int[] here = pays(p, act, followed);
            boolean oneWould = pays(p, !act, followed)[0] > here[0];
            boolean followerWould = pays(p, act, !followed)[1] > here[1];
            b += oneWould || followerWould ? 0 : 1 << i;
        }
        return b;
    }

    private int forget() {
        int were = now.notes.size();
        now.notes = new ArrayList<>();
        return were;
    }

    private Set<Integer> kinds(int p) {
        Set<Integer> set = new TreeSet<>();
        for (int k = 0; k < 6; k++) {
            int kind = k;
            if (now.notes.stream().allMatch(v -> v[0] != p || KINDS[kind].act(v[1], v[2] == 1, v[3]) == v[4])) {
                set.add(k);
            }
        }
        return set;
    }

    private int look(int p, int t) {
        Set<Integer> set = kinds(p);
        int best = NONE;
        int fewest = 99;
        for (int way = 11; way >= 0; way--) {
            int[] tally = new int[6];
            for (int k : set) {
                tally[KINDS[k].act(way % 6, way >= 6, t)]++;
            }
            int most = Arrays.stream(tally).max().getAsInt();
            if (most <= fewest) {
                fewest = most;
                best = way;
            }
        }
        return set.isEmpty() ? NONE : best;
    }

    private int sourceTempers() {
        int many = 0;
        for (int v = 0; v <= 100; v++) {
            int least = v;
            many += now.people.stream().allMatch(p -> p.listed == p.temper >= least) ? 1 : 0;
        }
        return many;
    }

    private int sourceKinds() {
        for (Person a : now.people) {
            for (Person b : now.people) {
                if (a.kind == b.kind && a.listed != b.listed) {
                    return 0;
                }
            }
        }
        return 1;
    }

    private BigInteger chance(World w, int p, int n, int c) {
        if (n == 0) {
            return BigInteger.ZERO;
        }
        BigInteger sum = BigInteger.ZERO;
        for (int f = 0; f <= 1; f++) {
            World next = w.copyWithoutPast();
            next.people.get(p).followed = f == 1;
            boolean struck = next.goBy().contains(p);
            BigInteger rest = struck ? BigInteger.TEN.pow(n - 1) : chance(next, p, n - 1, c);
            sum = sum.add(rest.multiply(BigInteger.valueOf(f == 1 ? c : 10 - c)));
        }
        return sum;
    }

    private int odds(int p, int n, int c) {
        above = chance(now, p, n, c);
        below = BigInteger.TEN.pow(n);
        BigInteger by = above.gcd(below);
        above = above.divide(by);
        below = below.divide(by);
        return 1;
    }

    private int years(int seed, int n) {
        World w = now.copyWithoutPast();
        BigInteger x = BigInteger.valueOf(seed);
        int struck = 0;
        for (int i = 0; i < n; i++) {
            for (Person p : w.people) {
                x = x.multiply(BigInteger.valueOf(1103515245)).add(BigInteger.valueOf(12345))
                    .mod(BigInteger.valueOf(2147483648L));
                p.followed = x.testBit(16);
            }
            struck += w.goBy().size();
        }
        return struck;
    }

    private int count(int what) {
        int followed = (int) now.people.stream().filter(p -> p.followed).count();
        int[] row = {now.people.size(), now.day, now.onList().size(), followed, now.struck, now.notes.size(),
            now.past.size(), text.length()};
        return row[what];
    }

    private long digest() {
        List<Long> values = new ArrayList<>();
        for (int what = 0; what < 8; what++) {
            values.add((long) count(what));
        }
        values.add((long) now.counts);
        for (int p = 0; p < now.people.size(); p++) {
            for (int what = 0; what < 4; what++) {
                values.add((long) of(now.people.get(p), p, what));
            }
        }
        for (int[] v : now.notes) {
            for (int i : v) {
                values.add((long) i);
            }
        }
        values.add(above.longValueExact());
        values.add(below.longValueExact());
        long h = 1213;
        for (long v : values) {
            h = 31 * h + v;
        }
        return h;
    }
}
