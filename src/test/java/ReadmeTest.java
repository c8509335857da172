import java.lang.reflect.Method;
import java.lang.reflect.Modifier;
import java.nio.file.Files;
import java.nio.file.Path;
import java.util.List;
import java.util.TreeSet;
import java.util.regex.Matcher;
import java.util.regex.Pattern;

/** The examples of README.md answer what stands behind them, and each call of the face has one. */
public final class ReadmeTest {
    private static final Pattern MAKE = Pattern.compile("RationDesk desk = new RationDesk\\(\\);\\s*(//.*)?");
    private static final Pattern CALL = Pattern.compile("desk\\.(\\w+)\\(([^)]*)\\);\\s*// ([^:\\s]+)(: .+)?");
    private static final int MOST_CALLS = 512;

    private static final TreeSet<String> names = new TreeSet<>();
    private static final TreeSet<String> answers = new TreeSet<>();
    private static RationDesk desk = null;
    private static int calls = 0;

    public static void main(String[] args) throws Exception {
        Report.part("README.md");
        List<String> lines = Files.readAllLines(Path.of("README.md"));
        boolean inside = false;
        for (String line : lines) {
            if (line.startsWith("```")) {
                inside = line.equals("```java");
            } else if (inside && !line.isBlank()) {
                checkLine(line);
            }
        }
        checkAllShown();
        Report.finish();
    }

    private static void checkLine(String line) throws Exception {
        Matcher call = CALL.matcher(line);
        if (MAKE.matcher(line).matches()) {
            desk = new RationDesk();
            calls = 0;
        } else if (desk == null || !call.matches()) {
            Report.wrong("this is no call with its answer: " + line);
        } else {
            calls++;
            if (calls > MOST_CALLS) {
                Report.wrong("a call after the 512th: " + line);
            }
            checkCall(line, call.group(1), call.group(2), call.group(3));
        }
    }

    private static void checkCall(String line, String name, String values, String answer) throws Exception {
        Method method = find(name);
        String[] given = values.isEmpty() ? new String[0] : values.split(", ");
        if (method == null || method.getParameterCount() != given.length) {
            Report.wrong("there is no such call: " + line);
            return;
        }
        String got = String.valueOf(method.invoke(desk, read(given, method.getParameterTypes())));
        if (!got.equals(number(answer))) {
            Report.wrong(line + " answered " + got);
        }
        names.add(name);
        answers.add(answer);
    }

    private static Method find(String name) {
        for (Method m : RationDesk.class.getDeclaredMethods()) {
            if (Modifier.isPublic(m.getModifiers()) && m.getName().equals(name)) {
                return m;
            }
        }
        return null;
    }

    private static Object[] read(String[] given, Class<?>[] types) {
        Object[] out = new Object[given.length];
        for (int n = 0; n < given.length; n++) {
            if (types[n] == boolean.class) {
                out[n] = given[n].equals("true");
            } else {
                out[n] = Integer.parseInt(given[n]);
            }
        }
        return out;
    }

    private static String number(String answer) {
        if (answer.equals("REFUSED")) {
            return "-1";
        }
        return answer.equals("FULL") ? "-2" : answer;
    }

    private static void checkAllShown() {
        for (Method m : RationDesk.class.getDeclaredMethods()) {
            if (Modifier.isPublic(m.getModifiers()) && !names.contains(m.getName())) {
                Report.wrong("no example of " + m.getName());
            }
        }
        if (!answers.contains("REFUSED") || !answers.contains("FULL")) {
            Report.wrong("no example that answers REFUSED, or none that answers FULL");
        }
    }
}
