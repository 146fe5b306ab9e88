import java.io.IOException;
import java.lang.reflect.Constructor;
import java.lang.reflect.Field;
import java.lang.reflect.Method;
import java.lang.reflect.Modifier;
import java.nio.file.Files;
import java.nio.file.Path;
import java.util.Arrays;
import java.util.Set;
import java.util.TreeSet;
import java.util.regex.Matcher;
import java.util.regex.Pattern;
import java.util.stream.Collectors;

/** That the class has the document's face and no other, and keeps to the rules of LANGUAGE.md that a text shows. */
public final class WantedLaterFaceTest {
    private static final String[] METHODS = {
        "int town(int)", "int one(int,int)", "int type(int)", "int clear()", "int read()", "int list(int,int)",
        "int follow(int,int)", "int day(int)", "int undo()", "int of(int,int)", "int then(int,int,int)", "int when(int)",
        "int lack()", "int comesTrue(int,int)", "int readings()", "int roster(int,int)", "int off(int,int,int)",
        "int rests(int)", "int note(int,int,int,int,int)", "int forget()", "int is(int)", "int look(int,int)",
        "int source(int)", "int odds(int,int,int)", "int years(int,int)", "long part(int)", "int image(int)",
        "int from(int)", "int status(int)", "int count(int)", "long digest()",
    };
    private static final Due D = new Due();

    public static void main(String[] args) throws IOException {
        members();
        extremes();
        text(Files.readString(Path.of("src/main/java/WantedLater.java")));
        D.end();
    }

    private static void members() {
        Class<?> face = WantedLater.class;
        D.due("public and final", face.getModifiers(), Modifier.PUBLIC | Modifier.FINAL);
        Set<String> due = new TreeSet<>(Arrays.asList(METHODS));
        Set<String> names = new TreeSet<>();
        for (Method m : face.getDeclaredMethods()) {
            if (Modifier.isPublic(m.getModifiers())) {
                String form = m.getReturnType() + " " + m.getName() + Arrays.stream(m.getParameterTypes())
                    .map(Class::getName).collect(Collectors.joining(",", "(", ")"));
                D.due("of the face: " + form, due.remove(form) ? 1 : 0, 1);
                names.add(m.getName());
            }
        }
        D.due("methods not there: " + due, due.size(), 0);
        for (Method m : face.getDeclaredMethods()) {
            if (!Modifier.isPublic(m.getModifiers())) {
                D.due("private: " + m, Modifier.isPrivate(m.getModifiers()) ? 1 : 0, 1);
                D.due("another name: " + m, names.contains(m.getName()) ? 1 : 0, 0);
            }
        }
        Set<String> constants = new TreeSet<>(Set.of("NONE", "BAD", "NO", "FULL"));
        for (Field f : face.getDeclaredFields()) {
            boolean isPublic = Modifier.isPublic(f.getModifiers());
            D.due("a constant or private: " + f, isPublic ? constants.remove(f.getName()) ? 1 : 0
                : Modifier.isPrivate(f.getModifiers()) ? 1 : 0, 1);
            D.due("static is final: " + f, Modifier.isStatic(f.getModifiers()) && !Modifier.isFinal(f.getModifiers())
                ? 1 : 0, 0);
        }
        D.due("constants not there: " + constants, constants.size(), 0);
        Constructor<?>[] made = face.getDeclaredConstructors();
        D.due("one constructor", made.length, 1);
        D.due("without arguments", made[0].getParameterCount(), 0);
        D.due("classes inside, at most 12", Math.max(12, face.getDeclaredClasses().length), 12);
        for (Class<?> c : face.getDeclaredClasses()) {
            D.due("static: " + c, Modifier.isStatic(c.getModifiers()) ? 1 : 0, 1);
            D.due("private or package-visible: " + c, c.getModifiers() & (Modifier.PUBLIC | Modifier.PROTECTED), 0);
        }
    }

    /** Every call with every mix of far numbers, on an empty town and on a full one: none may throw. */
    private static void extremes() {
        int[] far = {Integer.MIN_VALUE, -1, 0, 1, 6, 7, 61, Integer.MAX_VALUE};
        for (int full = 0; full <= 1; full++) {
            for (Method m : WantedLater.class.getDeclaredMethods()) {
                if (Modifier.isPublic(m.getModifiers())) {
                    mixes(m, far, full == 1);
                }
            }
        }
    }

    private static void mixes(Method m, int[] far, boolean full) {
        int arguments = m.getParameterCount();
        int mixes = (int) Math.pow(far.length, arguments);
        WantedLater x = new WantedLater();
        for (int mix = 0; mix < mixes; mix++) {
            if (mix % 400 == 0) {
                x = town(full);
            }
            Object[] a = new Object[arguments];
            int rest = mix;
            for (int i = 0; i < arguments; i++) {
                a[i] = far[rest % far.length];
                rest /= far.length;
            }
            try {
                m.invoke(x, a);
            } catch (ReflectiveOperationException e) {
                D.due(m + " " + Arrays.toString(a) + " threw " + e.getCause(), 1, 0);
            }
        }
    }

    private static WantedLater town(boolean full) {
        WantedLater x = new WantedLater();
        for (int p = 0; full && p < 7; p++) {
            x.one(p % 6, 30);
            x.list(p, 1);
            x.follow(p, 1);
        }
        return x;
    }

    private static void text(String file) {
        String code = file.replaceAll("/\\*(?s:.*?)\\*/", "").replaceAll("//.*", "")
            .replaceAll("import java\\.util\\.(ArrayList|List|Arrays|Iterator);", "")
            .replaceAll("(case [^:;{}>]*|default ?)->", "");
        String[] never = {"\\bthrow\\b", "\\btry\\b", "\\bcatch\\b", "\\bassert\\b", "\\bsynchronized\\b", "\\bimport\\b",
            "\\bpackage\\b", "->", "::", "\\bhashCode\\b", "\\bjava\\.", "\" \\+", "\\+ \"", "while \\(true\\)", "for \\(;;\\)",
            "Exact\\b", "\\bprotected\\b"};
        for (String word : never) {
            Matcher m = Pattern.compile(word).matcher(code);
            D.due("in the file: " + word, m.find() ? 1 : 0, 0);
        }
        D.due("signs 1 to 127", file.chars().allMatch(c -> c > 0 && c < 128) ? 1 : 0, 1);
    }
}
