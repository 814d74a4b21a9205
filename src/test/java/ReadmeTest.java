import java.io.IOException;
import java.lang.reflect.Method;
import java.lang.reflect.Modifier;
import java.nio.file.Files;
import java.nio.file.Path;
import java.util.ArrayList;
import java.util.List;
import java.util.Map;
import java.util.TreeMap;
import java.util.regex.Matcher;
import java.util.regex.Pattern;

/** What README.md says: its examples answer as they say, and its table of refusals is whole and right. */
public final class ReadmeTest extends Checks {
    private static final Pattern CALL = Pattern.compile("station\\.(\\w+)\\((.*?)\\);\\s*// (-?\\d+|true|false):.*");
    private static final Pattern ROW = Pattern.compile("\\| (`-?\\w+`|none) *\\| ((`\\w+` ?)+)\\|");

    private ReadmeTest() {
    }

    private static Map<String, Method> face() {
        Map<String, Method> face = new TreeMap<>();
        for (Method method : RailsGrowWider.class.getDeclaredMethods()) {
            if (Modifier.isPublic(method.getModifiers())) {
                face.put(method.getName(), method);
            }
        }
        return face;
    }

    private static Object argument(Class<?> type, String s) {
        return type == boolean.class ? (Object) Boolean.valueOf(s) : (Object) Integer.decode(s);
    }

    private static String answer(RailsGrowWider x, Method method, String[] said) throws ReflectiveOperationException {
        Object[] arguments = new Object[method.getParameterCount()];
        for (int k = 0; k < arguments.length; k++) {
            arguments[k] = argument(method.getParameterTypes()[k], said[k].trim());
        }
        return String.valueOf(method.invoke(x, arguments));
    }

    private static void examples(List<String> lines) throws ReflectiveOperationException {
        RailsGrowWider station = new RailsGrowWider();
        int calls = 0;
        for (String line : lines) {
            Matcher call = CALL.matcher(line);
            if (call.matches()) {
                calls++;
                due(line, answer(station, face().get(call.group(1)), call.group(2).split(",")), call.group(3));
            } else if (line.startsWith("station.")) {
                complain("an example that can't be made: " + line);
            }
        }
        due("there are examples", calls > 0, true);
    }

    /** Arguments that no call takes; true for a boolean. */
    private static String[] wrongFor(Method method) {
        String[] wrong = new String[method.getParameterCount()];
        for (int k = 0; k < wrong.length; k++) {
            wrong[k] = method.getParameterTypes()[k] == boolean.class ? "true" : String.valueOf(LEAST);
        }
        return wrong;
    }

    /** Four TEXTS and a full tape, so that text and feed are refused; no CARS, so that change, undo, .. are. */
    private static RailsGrowWider refusing() {
        RailsGrowWider x = new RailsGrowWider();
        for (int k = 0; k < 4; k++) {
            x.text();
        }
        write(x, padded("", 300));
        return x;
    }

    private static void refusals(List<String> lines) throws ReflectiveOperationException {
        List<String> listed = new ArrayList<>();
        for (String line : lines) {
            Matcher row = ROW.matcher(line);
            if (row.matches()) {
                for (String name : row.group(2).trim().split(" ")) {
                    String bare = name.replace("`", "");
                    listed.add(bare);
                    refusal(bare, row.group(1).replace("`", ""));
                }
            }
        }
        listed.sort(null);
        due("the calls of the table", listed.toString(), face().keySet().toString());
    }

    private static void refusal(String name, String answer) throws ReflectiveOperationException {
        Method method = face().get(name);
        if (method == null) {
            complain("no call of the face: " + name);
        } else if (!answer.equals("none")) {
            due(name + " refused", answer(refusing(), method, wrongFor(method)), answer);
        }
    }

    public static void main(String[] args) throws IOException, ReflectiveOperationException {
        List<String> lines = Files.readAllLines(Path.of("README.md"));
        examples(lines);
        refusals(lines);
        System.exit(exitCode());
    }
}
