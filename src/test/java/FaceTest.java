import java.lang.reflect.Constructor;
import java.lang.reflect.Field;
import java.lang.reflect.Method;
import java.lang.reflect.Modifier;
import java.util.Arrays;
import java.util.TreeSet;

/** The face of the class is the document's, word for word, and nothing else can be seen from outside. */
public final class FaceTest {
    private static final String[] METHODS = {
        "public boolean RationDesk.linear(int,int,int,int,int,boolean)",
        "public boolean RationDesk.fact(int,int,int)",
        "public int RationDesk.clause(int,int,int)",
        "public int RationDesk.push()",
        "public int RationDesk.pop()",
        "public int RationDesk.worlds()",
        "public boolean RationDesk.world(int)",
        "public int RationDesk.holds(int)",
        "public int RationDesk.most(int,int,int)",
        "public long RationDesk.top(int)",
        "public boolean RationDesk.bounded(int,int,int,int)",
    };
    /** Limits of LANGUAGE.md, rules 2 and 11. */
    private static final int MOST_PARAMETERS = 7, MOST_CLASSES = 12, MOST_FIELDS = 20;

    private static void check(boolean right, String what) {
        if (!right) {
            Report.wrong("not as due: " + what);
        }
    }

    private static void checkSizes(Class<?> type) {
        int fields = 0;
        for (Field f : type.getDeclaredFields()) {
            fields += Modifier.isStatic(f.getModifiers()) ? 0 : 1;
        }
        check(fields <= MOST_FIELDS, "at most twenty fields: " + type);
        for (Method m : type.getDeclaredMethods()) {
            check(m.getParameterCount() <= MOST_PARAMETERS, "at most seven parameters: " + m);
        }
    }

    private static void checkMembers(Class<?> type, TreeSet<String> publicNames) {
        for (Method m : type.getDeclaredMethods()) {
            boolean own = type == RationDesk.class && Modifier.isPublic(m.getModifiers());
            check(own || m.isSynthetic() || !publicNames.contains(m.getName()), "name of a public method: " + m);
        }
        for (Field f : type.getDeclaredFields()) {
            boolean fixed = !Modifier.isStatic(f.getModifiers()) || Modifier.isFinal(f.getModifiers());
            check(fixed, "static state: " + f);
        }
    }

    public static void main(String[] args) {
        Class<RationDesk> type = RationDesk.class;
        check(Modifier.isPublic(type.getModifiers()) && Modifier.isFinal(type.getModifiers()), "public final class");
        check(type.getPackageName().isEmpty(), "no package");

        TreeSet<String> due = new TreeSet<>(Arrays.asList(METHODS));
        TreeSet<String> found = new TreeSet<>();
        TreeSet<String> names = new TreeSet<>();
        for (Method m : type.getDeclaredMethods()) {
            if (!Modifier.isPrivate(m.getModifiers()) && !m.isSynthetic()) {
                found.add(m.toString());
                names.add(m.getName());
            }
        }
        check(found.equals(due), "methods: " + found);

        TreeSet<String> constants = new TreeSet<>();
        for (Field f : type.getDeclaredFields()) {
            if (!Modifier.isPrivate(f.getModifiers())) {
                constants.add(f.toString());
            }
        }
        check(constants.toString().equals(
            "[public static final int RationDesk.FULL, public static final int RationDesk.REFUSED]"),
            "constants: " + constants);

        Constructor<?>[] makers = type.getDeclaredConstructors();
        check(makers.length == 1 && makers[0].toString().equals("public RationDesk()"), "constructors");

        checkMembers(type, names);
        checkSizes(type);
        check(type.getDeclaredClasses().length < MOST_CLASSES, "at most twelve classes");
        for (Class<?> inner : type.getDeclaredClasses()) {
            checkSizes(inner);
            check(!Modifier.isPublic(inner.getModifiers()) && !Modifier.isProtected(inner.getModifiers()),
                "private or package-visible class: " + inner);
            check(Modifier.isStatic(inner.getModifiers()), "static class: " + inner);
            checkMembers(inner, names);
        }
        Report.finish();
    }
}
