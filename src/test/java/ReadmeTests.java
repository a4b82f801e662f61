import java.io.IOException;
import java.lang.reflect.InvocationTargetException;
import java.lang.reflect.Method;
import java.nio.charset.StandardCharsets;
import java.nio.file.Files;
import java.nio.file.Path;
import java.util.List;
import java.util.regex.Matcher;
import java.util.regex.Pattern;

/** The examples of README.md answer what stands behind them, and README.md names every call of the face. */
public final class ReadmeTests extends Check {
    private static final Path README = Path.of("README.md");
    private static final Pattern MADE =
        Pattern.compile("CommitCouncil x = new CommitCouncil\\((-?\\d+), (-?\\d+)\\);(?: *// .*)?");
    /** A call, and behind it the answer up to a colon; the comment of a call that answers nothing is free. */
    private static final Pattern CALL = Pattern.compile("x\\.(\\w+)\\(([^)]*)\\);(?: *// ([^:]*)(?::.*)?)?");

    private static CommitCouncil x;
    private static int played = 0;

    public static void main(String[] args) throws IOException {
        List<String> lines = Files.readAllLines(README, StandardCharsets.UTF_8);
        boolean inside = false;
        for (int k = 0; k < lines.size(); k++) {
            String line = lines.get(k);
            section = "README.md, line " + (k + 1);
            if (line.startsWith("```")) {
                inside = line.equals("```java");
                x = null;
            } else if (inside && !line.isBlank()) {
                play(line);
            }
        }
        section = "README.md";
        due("it has examples", played > 0, true);
        everyCallIsNamed(String.join("\n", lines));
        end();
    }

    private static void play(String line) {
        Matcher made = MADE.matcher(line);
        Matcher call = CALL.matcher(line);
        if (made.matches()) {
            x = new CommitCouncil(Integer.parseInt(made.group(1)), Integer.parseInt(made.group(2)));
        } else if (call.matches() && x != null) {
            compare(line, call.group(1), call.group(2), call.group(3));
        } else {
            fault("this line is no call: " + line);
        }
    }

    private static void compare(String line, String name, String arguments, String want) {
        Method method = methodOf(name);
        if (method == null) {
            fault("there is no such call: " + line);
            return;
        }
        String got = answerOf(method, arguments);
        played++;
        boolean told = method.getReturnType() == void.class && got.equals("null");
        if (!told && !got.equals(want)) {
            fault(line + " -- answered " + got);
        }
    }

    private static String answerOf(Method method, String arguments) {
        String[] texts = arguments.isEmpty() ? new String[0] : arguments.split(", ");
        Class<?>[] types = method.getParameterTypes();
        if (texts.length != types.length) {
            return "nothing: the call takes " + types.length + " arguments";
        }
        Object[] values = new Object[texts.length];
        for (int k = 0; k < texts.length; k++) {
            values[k] = types[k] == int.class ? (Object) Integer.valueOf(texts[k]) : Boolean.valueOf(texts[k]);
        }
        try {
            return String.valueOf(method.invoke(x, values));
        } catch (InvocationTargetException e) {
            return e.getCause().getClass().getSimpleName();
        } catch (IllegalAccessException e) {
            throw new AssertionError(e);
        }
    }

    private static Method methodOf(String name) {
        for (Method method : CommitCouncil.class.getMethods()) {
            if (method.getDeclaringClass() == CommitCouncil.class && method.getName().equals(name)) {
                return method;
            }
        }
        return null;
    }

    private static void everyCallIsNamed(String text) {
        for (Method method : CommitCouncil.class.getMethods()) {
            if (method.getDeclaringClass() == CommitCouncil.class) {
                due("it names " + method.getName(), text.contains("`" + method.getName() + "("), true);
            }
        }
    }
}
