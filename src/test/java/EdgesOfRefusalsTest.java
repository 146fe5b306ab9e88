import java.lang.reflect.Method;
import java.lang.reflect.Modifier;
import java.util.ArrayList;
import java.util.Arrays;
import java.util.HashMap;
import java.util.List;
import java.util.Map;

/**
 * Each call of the face with each argument one beyond each of its ends, and far beyond: refused as told, by the first
 * reason, changing nothing but STATUS; and with each argument at each of its ends: taken.
 */
public final class EdgesOfRefusalsTest {
    /** A name, and of each argument what is told; p is one of the PEOPLE. */
    private static final String[] FACE = {
        "town 1..5", "one 0..5 0..30", "type 0..127", "clear", "read", "list p 0..1", "follow p 0..1", "day 1..60",
        "undo", "of p 0..4", "then p 0..60 0..1", "when p", "lack", "comesTrue 1..30 0..1", "readings",
        "roster 1..9 0..9", "off p 1..8 0..1", "rests p", "note p 0..99 0..1 0..99 0..5", "forget", "is p", "look p 0..99",
        "source 0..1", "odds p 0..8 0..10", "years 0..999999 0..60", "part 0..1", "image 0..1", "from 0..1",
        "status 0..2", "count 0..7", "digest",
    };
    private static final Due D = new Due();
    private static final Map<String, Method> METHODS = new HashMap<>();

    public static void main(String[] args) throws ReflectiveOperationException {
        for (Method m : WantedLater.class.getDeclaredMethods()) {
            if (Modifier.isPublic(m.getModifiers())) {
                METHODS.put(m.getName(), m);
            }
        }
        for (String told : FACE) {
            for (int town = 0; town < 3; town++) {
                badArguments(told, town);
                takenAtTheEnds(told, town);
            }
        }
        notNow();
        noRoom();
        badFirst();
        D.end();
    }

    // ---- towns to ask

    /** 0: a new object; 1: some there, nothing is full; 2: all is full (PEOPLE, NOTES, THE TEXT, what may be undone). */
    private static WantedLater town(int which) {
        if (which == 0) {
            return new WantedLater();
        }
        if (which == 1) {
            WantedLater x = Towns.wanted(Towns.of(2, 0, 16, 3, 5, 4, 2), 3);
            x.odds(0, 3, 4);
            x.day(2);
            x.note(1, 2, 0, 9, 1);
            Towns.type(x, "town 4;one 5 9;");
            return x;
        }
        WantedLater x = Towns.of(4, 0, 30, 1, 29, 2, 28, 3, 27, 4, 26, 5, 25, 0, 2);
        Towns.wanted(x, 1 + 8 + 64);
        x.image(1);
        x.day(7);
        x.odds(6, 8, 3);
        for (int i = 0; i < 6; i++) {
            x.note(i, i, 1, 9 * i, 1);
        }
        Towns.type(x, "town 5;one 0 7;list 0;" + " ".repeat(128));
        return x;
    }

    private static final int[] PEOPLE = {0, 3, 7};

    // ---- asking

    private static long ask(WantedLater x, String name, int... a) throws ReflectiveOperationException {
        return ((Number) METHODS.get(name).invoke(x, Arrays.stream(a).boxed().toArray())).longValue();
    }

    /** All that can be told of an object, but STATUS; it is used up by it. */
    private static List<Long> all(WantedLater x) {
        List<Long> v = new ArrayList<>();
        addTown(v, x);
        addUndone(v, x);
        for (int i = 0; i <= 1; i++) {
            v.add((long) x.from(i));
            addTown(v, x);
            addUndone(v, x);
        }
        v.add((long) x.read());
        addTown(v, x);
        return v;
    }

    private static void addTown(List<Long> v, WantedLater x) {
        v.add(x.digest());
        v.add((long) x.lack());
        v.add((long) x.readings());
        for (int p = 0; p < 7; p++) {
            v.add((long) x.is(p));
        }
    }

    private static void addUndone(List<Long> v, WantedLater x) {
        for (int i = 0; i <= 8; i++) {
            v.add((long) x.undo());
            v.add(x.digest());
        }
    }

    /** That the call is refused so, that STATUS counts it once, and that all else is as if it had not been. */
    private static void refused(int town, long reason, String name, int... a) throws ReflectiveOperationException {
        WantedLater x = town(town);
        WantedLater beside = town(town);
        D.sentence("Refused, changing nothing but STATUS: town " + town + ", " + name + Arrays.toString(a));
        long answer = name.equals("status") ? -1 : reason;
        D.due("the call", ask(x, name, a), answer);
        for (int what = 0; what <= 2; what++) {
            int counts = reason == WantedLater.BAD - what ? 1 : 0;
            D.due("status(" + what + ")", x.status(what), beside.status(what) + counts);
        }
        D.due("all else is as it was", all(x).equals(all(beside)) ? 1 : 0, 1);
    }

    private static int least(String told) {
        return told.equals("p") ? 0 : Integer.parseInt(told.substring(0, told.indexOf('.')));
    }

    private static int most(String told, int town) {
        return told.equals("p") ? PEOPLE[town] - 1 : Integer.parseInt(told.substring(told.lastIndexOf('.') + 1));
    }

    private static void badArguments(String told, int town) throws ReflectiveOperationException {
        String[] parts = told.split(" ");
        int[] a = new int[parts.length - 1];
        for (int i = 0; i < a.length; i++) {
            int least = least(parts[i + 1]);
            int most = most(parts[i + 1], town);
            for (int beyond : new int[] {least - 1, most + 1, Integer.MIN_VALUE, Integer.MAX_VALUE, least + 256, ~most}) {
                if (beyond >= least && beyond <= most) {
                    continue;
                }
                for (int j = 0; j < a.length; j++) {
                    a[j] = least(parts[j + 1]);
                }
                a[i] = beyond;
                refused(town, WantedLater.BAD, parts[0], a);
            }
        }
        if (a.length > 1) {
            for (int j = 0; j < a.length; j++) {
                a[j] = most(parts[j + 1], town) + 1;
            }
            refused(town, WantedLater.BAD, parts[0], a);
        }
    }

    /** With every argument at its least, and each alone at its most: it isn't BAD. */
    private static void takenAtTheEnds(String told, int town) throws ReflectiveOperationException {
        String[] parts = told.split(" ");
        if (parts.length > 1 && parts[1].equals("p") && PEOPLE[town] == 0) {
            return;
        }
        int[] a = new int[parts.length - 1];
        for (int i = -1; i < a.length; i++) {
            for (int j = 0; j < a.length; j++) {
                a[j] = j == i ? most(parts[j + 1], town) : least(parts[j + 1]);
            }
            WantedLater x = town(town);
            int bad = x.status(0);
            D.sentence("as told, so not BAD: town " + town + ", " + parts[0] + Arrays.toString(a));
            D.due("the call is BAD", ask(x, parts[0], a) == WantedLater.BAD ? 1 : 0, 0);
            D.due("status(0)", x.status(0), bad);
        }
    }

    private static void notNow() throws ReflectiveOperationException {
        refused(0, WantedLater.NO, "undo");
        for (int i = 0; i <= 1; i++) {
            refused(0, WantedLater.NO, "from", i);
            refused(1, WantedLater.NO, "from", i);
        }
        refused(2, WantedLater.NO, "from", 0);
        for (int what = 0; what <= 1; what++) {
            for (int n : new int[] {1, 8}) {
                refused(1, WantedLater.NO, "off", 2, n, what);
                refused(2, WantedLater.NO, "off", 1, n, what);
                refused(2, WantedLater.NO, "off", 5, n, what);
            }
        }
        for (int c : new int[] {0, 10}) {
            for (int n : new int[] {0, 8}) {
                refused(1, WantedLater.NO, "odds", 2, n, c);
                refused(2, WantedLater.NO, "odds", 1, n, c);
                refused(2, WantedLater.NO, "odds", 5, n, c);
            }
        }
    }

    private static void noRoom() throws ReflectiveOperationException {
        refused(2, WantedLater.FULL, "one", 0, 0);
        refused(2, WantedLater.FULL, "one", 5, 30);
        refused(2, WantedLater.FULL, "type", 0);
        refused(2, WantedLater.FULL, "type", 127);
        refused(2, WantedLater.FULL, "note", 0, 0, 0, 0, 0);
        refused(2, WantedLater.FULL, "note", 6, 99, 1, 99, 5);
    }

    /** BAD ahead of NO, BAD ahead of FULL. */
    private static void badFirst() throws ReflectiveOperationException {
        refused(1, WantedLater.BAD, "off", 2, 0, 0);
        refused(1, WantedLater.BAD, "off", 2, 9, 0);
        refused(1, WantedLater.BAD, "off", 2, 1, 2);
        refused(1, WantedLater.BAD, "off", 3, 1, 0);
        refused(1, WantedLater.BAD, "odds", 2, -1, 0);
        refused(1, WantedLater.BAD, "odds", 2, 9, 0);
        refused(1, WantedLater.BAD, "odds", 2, 1, 11);
        refused(1, WantedLater.BAD, "odds", 3, 1, 1);
        refused(0, WantedLater.BAD, "from", 2);
        refused(2, WantedLater.BAD, "one", 6, 0);
        refused(2, WantedLater.BAD, "one", 0, 31);
        refused(2, WantedLater.BAD, "type", 128);
        refused(2, WantedLater.BAD, "note", 7, 0, 0, 0, 0);
        refused(2, WantedLater.BAD, "note", 0, 0, 0, 0, 6);
    }
}
