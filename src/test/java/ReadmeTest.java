import java.io.IOException;
import java.lang.reflect.Method;
import java.lang.reflect.Modifier;
import java.nio.file.Files;
import java.nio.file.Path;
import java.util.Set;
import java.util.TreeSet;
import java.util.regex.Matcher;
import java.util.regex.Pattern;

/** README.md says what is so: its calls are made on its hamlet, and its table names every call of the face. */
public final class ReadmeTest {
    private static final Check CHECK = new Check("ReadmeTest");
    private static final Pattern TOLD = Pattern.compile("(?s)```text\n(.*?)```");
    private static final Pattern CALL = Pattern.compile("(?m)^green\\.(\\w+)\\(([^)]*)\\);\\s+// (-?\\d+|true|false)");

    public static void main(String[] args) throws IOException, ReflectiveOperationException {
        String page = Files.readString(Path.of("README.md"));
        calls(page);
        table(page);
        CHECK.end();
    }

    private static void calls(String page) throws ReflectiveOperationException {
        Matcher told = TOLD.matcher(page);
        CHECK.due("README.md tells a hamlet", told.find(), true);
        NettleGreen green = CHECK.told(told.group(1));
        Matcher call = CALL.matcher(page);
        int made = 0;
        while (call.find()) {
            made++;
            String answer = String.valueOf(answer(green, call.group(1), call.group(2)));
            CHECK.due("README.md: " + call.group() + ", but it answered " + answer, answer.equals(call.group(3)), true);
        }
        CHECK.due("calls in README.md", made, 16);
    }

    private static Object answer(NettleGreen green, String name, String told) throws ReflectiveOperationException {
        Method method = face(name);
        String[] words = told.isEmpty() ? new String[0] : told.split(", ");
        Object[] arguments = new Object[words.length];
        for (int i = 0; i < words.length; i++) {
            boolean isBit = method.getParameterTypes()[i] == boolean.class;
            arguments[i] = isBit ? (Object) Boolean.valueOf(words[i]) : (Object) Integer.valueOf(words[i]);
        }
        return method.invoke(green, arguments);
    }

    private static Method face(String name) throws NoSuchMethodException {
        for (Method method : NettleGreen.class.getDeclaredMethods()) {
            if (Modifier.isPublic(method.getModifiers()) && method.getName().equals(name)) {
                return method;
            }
        }
        throw new NoSuchMethodException(name);
    }

    private static void table(String page) {
        Set<String> unnamed = new TreeSet<>();
        for (Method method : NettleGreen.class.getDeclaredMethods()) {
            if (Modifier.isPublic(method.getModifiers())) {
                unnamed.add(method.getName());
            }
        }
        Matcher row = Pattern.compile("(?m)^\\| (`[^|]*) \\|").matcher(page);
        while (row.find()) {
            for (String name : row.group(1).split(" ")) {
                unnamed.remove(name.replace("`", ""));
            }
        }
        CHECK.due("calls that README.md does not name " + unnamed, unnamed.size(), 0);
    }
}
