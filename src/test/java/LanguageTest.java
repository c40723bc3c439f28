import java.io.IOException;
import java.lang.reflect.Executable;
import java.lang.reflect.Field;
import java.lang.reflect.Method;
import java.lang.reflect.Modifier;
import java.nio.file.Files;
import java.nio.file.Path;
import java.util.ArrayList;
import java.util.Arrays;
import java.util.List;
import java.util.Set;
import java.util.TreeSet;
import java.util.regex.Matcher;
import java.util.regex.Pattern;

/** The rules of ../shared/LANGUAGE.md that can be seen from the source and the class, and the document's face. */
public final class LanguageTest {
    private static final Check CHECK = new Check("LanguageTest");
    private static final Path SOURCE = Path.of("src/main/java/NettleGreen.java");
    private static final Path DOC = Path.of("../shared/DOC.md");

    public static void main(String[] args) throws IOException {
        String source = Files.readString(SOURCE);
        face();
        names();
        sizes();
        words(source);
        methodLengths(source);
        CHECK.end();
    }

    private static void none(String what, List<String> found) {
        CHECK.due(what + " " + found, found.size(), 0);
    }

    private static String shape(Method method) {
        return method.getReturnType().getSimpleName() + " " + method.getName() + Arrays.stream(method.getParameterTypes())
            .map(Class::getSimpleName).toList();
    }

    private static void face() throws IOException {
        Set<String> told = new TreeSet<>();
        Matcher m = Pattern.compile("    public (int|boolean) (\\w+)\\(([^)]*)\\);").matcher(Files.readString(DOC));
        while (m.find()) {
            List<String> types = new ArrayList<>();
            for (String parameter : m.group(3).isEmpty() ? new String[0] : m.group(3).split(", ")) {
                types.add(parameter.split(" ")[0]);
            }
            told.add(m.group(1) + " " + m.group(2) + types);
        }
        Set<String> built = new TreeSet<>();
        for (Method method : NettleGreen.class.getDeclaredMethods()) {
            if (!Modifier.isPrivate(method.getModifiers()) && !method.isSynthetic()) {
                built.add((Modifier.isPublic(method.getModifiers()) ? "" : "not public: ") + shape(method));
            }
        }
        CHECK.due("methods of the document", told.size(), 49);
        CHECK.due("the face is the document's: " + told + " and " + built, told.equals(built), true);
        List<String> fields = new ArrayList<>();
        for (Field field : NettleGreen.class.getDeclaredFields()) {
            if (!Modifier.isPrivate(field.getModifiers())) {
                fields.add(field.getName());
            }
        }
        CHECK.due("constants " + fields, fields.equals(List.of("NONE")), true);
        CHECK.due("constructors", NettleGreen.class.getDeclaredConstructors().length, 1);
        CHECK.due("final", Modifier.isFinal(NettleGreen.class.getModifiers()), true);
    }

    private static List<Class<?>> classes() {
        List<Class<?>> all = new ArrayList<>(List.of(NettleGreen.class));
        all.addAll(List.of(NettleGreen.class.getDeclaredClasses()));
        return all;
    }

    private static void names() {
        Set<String> face = new TreeSet<>();
        for (Method method : NettleGreen.class.getMethods()) {
            if (method.getDeclaringClass() == NettleGreen.class) {
                face.add(method.getName());
            }
        }
        List<String> twice = new ArrayList<>();
        for (Class<?> one : classes()) {
            for (Method method : one.getDeclaredMethods()) {
                if (!Modifier.isPublic(method.getModifiers()) && face.contains(method.getName())) {
                    twice.add(one.getSimpleName() + "." + method.getName());
                }
            }
        }
        none("methods that bear the name of a public one", twice);
    }

    private static void sizes() {
        CHECK.due("at most twelve classes", classes().size() <= 12, true);
        List<String> large = new ArrayList<>();
        for (Class<?> one : classes()) {
            long fields = Arrays.stream(one.getDeclaredFields()).filter(f -> !Modifier.isStatic(f.getModifiers())).count();
            if (fields > 20) {
                large.add(one.getSimpleName() + " has " + fields + " fields");
            }
            if (one != NettleGreen.class && !Modifier.isStatic(one.getModifiers())) {
                large.add(one.getSimpleName() + " is not static");
            }
            for (Field field : one.getDeclaredFields()) {
                if (Modifier.isStatic(field.getModifiers()) && !Modifier.isFinal(field.getModifiers())) {
                    large.add(field.getName() + " is static and not final");
                }
            }
            List<Executable> all = new ArrayList<>(List.of(one.getDeclaredMethods()));
            all.addAll(List.of(one.getDeclaredConstructors()));
            for (Executable method : all) {
                if (method.getParameterCount() > 7) {
                    large.add(method.getName() + " takes too many parameters");
                }
            }
        }
        none("too large", large);
    }

    private static void words(String source) {
        String code = source.replaceAll("(?s)/\\*.*?\\*/", "").replaceAll("//[^\n]*", "").replaceAll("\"[^\"\n]*\"", "\"\"");
        for (String word : List.of("throw", "throws", "try", "catch", "finally", "synchronized", "assert", "native",
            "strictfp", "volatile", "transient", "var", "goto", "Object", "System.out", "System.exit", "Thread", "Exact")) {
            CHECK.due("word " + word, Pattern.compile("\\b" + Pattern.quote(word) + "\\b").matcher(code).find(), false);
        }
        for (String sign : List.of("->", "::", "@", "...")) {
            CHECK.due("sign " + sign, code.contains(sign), false);
        }
        CHECK.due("a class without a name", Pattern.compile("new \\w+\\([^)]*\\)\\s*\\{").matcher(code).find(), false);
        CHECK.due("a static block", Pattern.compile("static\\s*\\{").matcher(code).find(), false);
        List<String> imports = Pattern.compile("import [^;]*;").matcher(source).results().map(r -> r.group()).toList();
        CHECK.due("imports " + imports, List.of("import java.util.Arrays;").equals(imports), true);
        CHECK.due("signs 1 to 127 alone", source.chars().allMatch(c -> c > 0 && c < 128), true);
    }

    /** A method of this file begins at four or eight blanks, and ends with a bracket at as many. */
    private static void methodLengths(String source) {
        String[] lines = source.split("\n");
        List<String> tooLong = new ArrayList<>();
        for (int i = 0; i < lines.length; i++) {
            Matcher head = Pattern.compile("^( {4}| {8})\\w.*\\) \\{$").matcher(lines[i]);
            if (head.find()) {
                int end = i;
                while (end < lines.length && !lines[end].equals(head.group(1) + "}")) {
                    end++;
                }
                if (end - i + 1 > 60) {
                    tooLong.add(lines[i].trim());
                }
            }
        }
        none("methods of more than sixty lines", tooLong);
    }
}
