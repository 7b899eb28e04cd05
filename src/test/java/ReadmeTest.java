import java.io.IOException;
import java.lang.reflect.Method;
import java.nio.file.Files;
import java.nio.file.Path;
import java.util.regex.Matcher;
import java.util.regex.Pattern;

/** Each call that README.md, in the folder where this is run, shows with an answer answers it. */
public final class ReadmeTest {
    private static final Pattern MADE = Pattern.compile("TrailStore store = new TrailStore\\((\\d+)\\);.*");
    private static final Pattern CALL = Pattern.compile("store\\.(\\w+)\\((.*?)\\);\\s*// .*: (-?\\d+)");

    public static void main(String[] args) throws IOException, ReflectiveOperationException {
        Due due = new Due("README.md");
        due.sentence("Behind each call stands its answer");
        TrailStore store = null;
        for (String line : Files.readAllLines(Path.of("README.md"))) {
            Matcher made = MADE.matcher(line);
            if (made.matches()) {
                store = new TrailStore(Integer.parseInt(made.group(1)));
            } else if (line.startsWith("store.")) {
                answers(due, store, line);
            }
        }
        due.end();
    }

    private static void answers(Due due, TrailStore store, String line) throws ReflectiveOperationException {
        Matcher call = CALL.matcher(line);
        if (store == null || !call.matches()) {
            due.is("whether there is an object, and an answer, in: " + line, 0, 1);
            return;
        }
        due.is(call.group(1) + "(" + call.group(2) + ")", answer(store, call.group(1), call.group(2)),
                Long.parseLong(call.group(3)));
    }

    private static int answer(TrailStore store, String name, String list) throws ReflectiveOperationException {
        String[] texts = list.isEmpty() ? new String[0] : list.split(", ");
        for (Method method : TrailStore.class.getMethods()) {
            if (method.getName().equals(name) && method.getParameterCount() == texts.length) {
                return (Integer) method.invoke(store, numbers(method.getParameterTypes(), texts));
            }
        }
        return Integer.MIN_VALUE;
    }

    private static Object[] numbers(Class<?>[] types, String[] texts) {
        Object[] numbers = new Object[texts.length];
        for (int i = 0; i < texts.length; i++) {
            long number = Long.decode(texts[i].replace("L", ""));
            if (types[i] == int.class) {
                numbers[i] = (int) number;
            } else {
                numbers[i] = number;
            }
        }
        return numbers;
    }
}
