import java.lang.reflect.Field;
import java.lang.reflect.Method;
import java.lang.reflect.Modifier;
import java.util.Set;
import java.util.TreeSet;

/** The face is the document's and nothing else (rule 1 of LANGUAGE.md). */
public final class FaceTest {
    private static final String FACE = """
            int type(long, int)
            int clear()
            int market()
            int stall(int, int)
            int way(int, int)
            int often(int, int, int, int)
            int bag(int, int, int, int, int, int)
            long about(int, int)
            int look(int, int, int, int, int, int)
            long seldom(int, int, int, int, int)
            long counted(int)
            long likely(int, int, int)
            int belief(int, int)
            long odds(int, int, int)
            int judged(int)
            int apart(int, int, int, int)
            int follow(int, int, int)
            int bar(int, int)
            int done(int, int)
            long cost(int, int)
            int enough(int)
            long year(int, int, int)
            long truly(int, int)
            int cheap()
            int favoured(int)
            long even(int, int)
            int trial(int, int, int, int)
            long middle(int)
            long drift(int, int)
            int lot(int)
            int sales(int, int, int, int)
            int steps()
            long score(int, int)
            int keep(int)
            int back(int)
            int count(int)
            long trace()
            """;

    private static int wrong;

    public static void main(String[] args) throws ReflectiveOperationException {
        Class<?> c = ThumbScale.class;
        is("class", Modifier.toString(c.getModifiers()), "public final");
        is("constructors", String.valueOf(c.getDeclaredConstructors().length), "1");
        is("constructor", c.getDeclaredConstructors()[0].toString(), "public ThumbScale()");
        methods(c);
        fields(c);
        for (Class<?> inner : c.getDeclaredClasses()) {
            int m = inner.getModifiers();
            is(inner.getName() + " static", String.valueOf(Modifier.isStatic(m)), "true");
            is(inner.getName() + " public", String.valueOf(Modifier.isPublic(m) || Modifier.isProtected(m)), "false");
        }
        is("classes, 12 at most", String.valueOf(c.getDeclaredClasses().length < 12), "true");
        fewFields(c);
        for (Class<?> inner : c.getDeclaredClasses()) {
            fewFields(inner);
        }
        System.out.println("FaceTest: " + wrong + " wrong");
        if (wrong != 0) {
            System.exit(1);
        }
    }

    private static void is(String what, String got, String want) {
        if (!got.equals(want)) {
            wrong++;
            System.out.println(what + ": " + got + ", due is " + want);
        }
    }

    private static void methods(Class<?> c) {
        Set<String> open = new TreeSet<>();
        Set<String> openNames = new TreeSet<>();
        for (Method m : c.getDeclaredMethods()) {
            if (!Modifier.isPrivate(m.getModifiers()) && !m.isSynthetic()) {
                is(m.getName(), Modifier.toString(m.getModifiers()), "public");
                StringBuilder s = new StringBuilder(m.getReturnType() + " " + m.getName() + "(");
                for (Class<?> p : m.getParameterTypes()) {
                    s.append(s.charAt(s.length() - 1) == '(' ? "" : ", ").append(p);
                }
                open.add(s.append(")").toString());
                openNames.add(m.getName());
            }
        }
        is("methods", String.join("\n", open), String.join("\n", new TreeSet<>(FACE.lines().toList())));
        ownMethods(c, openNames);
        for (Class<?> inner : c.getDeclaredClasses()) {
            ownMethods(inner, openNames);
        }
    }

    private static void ownMethods(Class<?> c, Set<String> openNames) {
        for (Method m : c.getDeclaredMethods()) {
            boolean own = c != ThumbScale.class || Modifier.isPrivate(m.getModifiers());
            if (own && openNames.contains(m.getName())) {
                is(c.getName() + "." + m.getName(), "bears the name of a public one", "");
            }
            if (m.getParameterCount() > 7) {
                is(m.getName(), m.getParameterCount() + " parameters", "7 at most");
            }
        }
    }

    /** Rule 11: some twenty fields beside the constants. */
    private static void fewFields(Class<?> c) {
        int fields = 0;
        for (Field f : c.getDeclaredFields()) {
            fields += Modifier.isStatic(f.getModifiers()) || f.isSynthetic() ? 0 : 1;
        }
        is(c.getName() + " has 20 fields at most", String.valueOf(fields <= 20), "true");
    }

    private static void fields(Class<?> c) throws ReflectiveOperationException {
        Set<String> open = new TreeSet<>();
        for (Field f : c.getDeclaredFields()) {
            if (!Modifier.isPrivate(f.getModifiers())) {
                open.add(Modifier.toString(f.getModifiers()) + " " + f.getType() + " " + f.getName() + " " + f.get(null));
            } else if (Modifier.isStatic(f.getModifiers())) {
                is(f.getName() + " final", String.valueOf(Modifier.isFinal(f.getModifiers())), "true");
            }
        }
        is("constants", String.join(", ", open), "public static final int BAD -1, public static final int FULL -3, "
                + "public static final int NONE -9, public static final int STATE -2, "
                + "public static final long NO -1000000000000000000");
    }
}
