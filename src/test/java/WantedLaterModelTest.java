import java.lang.reflect.Method;
import java.lang.reflect.Modifier;
import java.util.Arrays;
import java.util.HashMap;
import java.util.Map;
import java.util.Random;

/** Long runs of calls, right and wrong ones, each answer beside the one of LiteralTown. */
public final class WantedLaterModelTest {
    private static final int RUNS = 3000;
    private static final int CALLS = 512;
    /** A name and, for each argument, a rule: what is told, or p for one of the PEOPLE. */
    private static final String[] FACE = {
        "town 1..5", "one 0..5 0..30", "type 0..127", "clear", "read", "list p 0..1", "follow p 0..1", "day 1..60",
        "undo", "of p 0..4", "then p 0..60 0..1", "when p", "lack", "comesTrue 1..30 0..1", "readings",
        "roster 1..9 0..9", "off p 1..8 0..1", "rests p", "note p 0..99 0..1 0..99 0..5", "forget", "is p", "look p 0..99",
        "source 0..1", "odds p 0..8 0..10", "years 0..999999 0..60", "part 0..1", "image 0..1", "from 0..1",
        "status 0..2", "count 0..7", "digest",
    };
    /** How often each is called, beside the others. */
    private static final int[] OFTEN = {
        1, 8, 1, 1, 2, 16, 16, 12, 12, 8, 4, 4, 4, 4, 4, 2, 4, 4, 8, 1, 4, 4, 4, 3, 4, 4, 2, 2, 2, 4, 4,
    };
    private static final Due D = new Due();
    private static final Map<String, Method> METHODS = new HashMap<>();

    public static void main(String[] args) throws Exception {
        for (Method m : WantedLater.class.getDeclaredMethods()) {
            if (Modifier.isPublic(m.getModifiers())) {
                METHODS.put(m.getName(), m);
            }
        }
        for (int run = 0; run < RUNS; run++) {
            new WantedLaterModelTest(run).go();
        }
        D.end();
    }

    private final int run;
    private final Random random;
    private final WantedLater x = new WantedLater();
    private final LiteralTown model = new LiteralTown();
    private int calls;

    private WantedLaterModelTest(int run) {
        this.run = run;
        random = new Random(run);
    }

    private void go() throws Exception {
        while (calls < CALLS) {
            int which = random.nextInt(200);
            if (which == 0) {
                readText(randomText());
            } else if (which == 1) {
                fillTown();
            } else if (which < 12) {
                noteTruly();
            } else {
                randomCall();
            }
        }
    }

    private void call(String name, int... a) throws Exception {
        if (calls >= CALLS) {
            return;
        }
        calls++;
        Object[] boxed = Arrays.stream(a).boxed().toArray();
        long got = ((Number) METHODS.get(name).invoke(x, boxed)).longValue();
        D.due("run " + run + ", call " + calls + ": " + name + Arrays.toString(a), got, model.call(name, a));
        if (calls < CALLS && (!name.equals("type") || calls % 10 == 0)) {
            calls++;
            D.due("run " + run + ", call " + calls + ": digest behind it", x.digest(), model.call("digest"));
        }
    }

    private void randomCall() throws Exception {
        int sum = Arrays.stream(OFTEN).sum();
        int pick = random.nextInt(sum);
        int i = 0;
        while (pick >= OFTEN[i]) {
            pick -= OFTEN[i];
            i++;
        }
        String[] parts = FACE[i].split(" ");
        int[] a = new int[parts.length - 1];
        for (int j = 0; j < a.length; j++) {
            a[j] = argument(parts[j + 1]);
        }
        call(parts[0], a);
    }

    private int argument(String rule) {
        int least = rule.equals("p") ? 0 : Integer.parseInt(rule.substring(0, rule.indexOf('.')));
        int most = rule.equals("p") ? (int) Math.max(0, model.call("count", 0) - 1)
            : Integer.parseInt(rule.substring(rule.lastIndexOf('.') + 1));
        switch (random.nextInt(60)) {
            case 0:
                return least - 1;
            case 1:
                return most + 1;
            case 2:
                return random.nextInt();
            case 3:
                return random.nextBoolean() ? Integer.MIN_VALUE : Integer.MAX_VALUE;
            case 4:
            case 5:
                return least;
            case 6:
            case 7:
                return most;
            default:
                return least + random.nextInt(most - least + 1);
        }
    }

    private void fillTown() throws Exception {
        call("town", 1 + random.nextInt(5));
        int many = random.nextInt(8);
        for (int p = 0; p < many; p++) {
            call("one", random.nextInt(6), random.nextInt(31));
            call("list", p, random.nextInt(2));
            call("follow", p, random.nextInt(2));
        }
    }

    /** A NOTE that some KIND at least keeps to, so that IS and LOOK have something left. */
    private void noteTruly() throws Exception {
        int people = (int) model.call("count", 0);
        if (people == 0) {
            return;
        }
        int p = random.nextInt(people);
        long act = model.call("of", p, 4);
        call("note", p, (int) model.call("count", 1) % 100, (int) model.call("of", p, 3), (int) model.call("of", p, 1),
            (int) act);
        call("is", p);
        call("look", p, random.nextInt(100));
        call("look", p, (int) model.call("of", p, 1));
    }

    private void readText(String text) throws Exception {
        call("clear");
        for (int i = 0; i < text.length(); i++) {
            call("type", text.charAt(i));
        }
        call("read");
    }

    private String randomText() {
        StringBuilder b = new StringBuilder(blanks() + "town" + blanks() + (1 + random.nextInt(5)) + blanks() + ";");
        int items = random.nextInt(12);
        int people = 0;
        for (int i = 0; i < items; i++) {
            b.append(blanks());
            if (people == 0 || random.nextInt(2) == 0) {
                b.append("one").append(blanks()).append(random.nextInt(6)).append(' ').append(number(31));
                people++;
            } else {
                b.append(random.nextBoolean() ? "list" : "follow").append(blanks()).append(number(people));
            }
            b.append(blanks()).append(';');
        }
        b.append(blanks());
        if (random.nextInt(3) == 0) {
            int at = random.nextInt(b.length());
            String odd = "town one list follow 0 1 31 99 100 001 ; x T - \t";
            String[] odds = odd.split(" ");
            b.replace(at, Math.min(b.length(), at + random.nextInt(3)), odds[random.nextInt(odds.length)]);
        } else if (random.nextInt(4) == 0) {
            b.setLength(random.nextInt(b.length()));
        }
        return b.toString();
    }

    private String number(int below) {
        int v = random.nextInt(below);
        return v < 10 && random.nextInt(4) == 0 ? "0" + v : "" + v;
    }

    private String blanks() {
        return " ".repeat(Math.max(0, random.nextInt(5) - 2));
    }
}
