import java.io.IOException;
import java.lang.reflect.Method;
import java.lang.reflect.Modifier;
import java.nio.file.Files;
import java.nio.file.Path;
import java.util.TreeSet;
import java.util.regex.Matcher;
import java.util.regex.Pattern;

/** Plays the example of README.md: each call answers what the page says, and each call of the face is named there. */
final class ReadmeTest {
    private static final Pattern CALL = Pattern.compile("x\\.(\\w+)\\((.*)\\); *// ([^:]+): .*");
    private static final String FIRST = "ClearingFiles x = new ClearingFiles();";

    public static void main(String[] args) throws IOException, ReflectiveOperationException {
        String page = Files.readString(Path.of("README.md"));
        int begin = page.indexOf("```java\n") + "```java\n".length();
        String[] lines = page.substring(begin, page.indexOf("```", begin)).split("\n");
        play(lines);
        everyCallIsNamed(page);
        Check.finish();
    }

    private static void play(String[] lines) throws ReflectiveOperationException {
        Check.due("the example begins with a new object", lines[0].equals(FIRST), true);
        ClearingFiles x = new ClearingFiles();
        for (int k = 1; k < lines.length; k++) {
            Matcher line = CALL.matcher(lines[k]);
            boolean isCall = line.matches();
            Check.due("a call with its answer: " + lines[k], isCall, true);
            if (isCall) {
                String answer = String.valueOf(answer(x, line.group(1), line.group(2)));
                Check.due(lines[k] + " (answers " + answer + ")", answer.equals(line.group(3)), true);
            }
        }
    }

    private static Method method(String name) {
        for (Method method : ClearingFiles.class.getMethods()) {
            if (method.getName().equals(name) && method.getDeclaringClass() == ClearingFiles.class) {
                return method;
            }
        }
        throw new IllegalStateException("README.md calls " + name + ", which is no call of the class");
    }

    private static Object answer(ClearingFiles x, String name, String listed) throws ReflectiveOperationException {
        Method method = method(name);
        String[] texts = listed.isEmpty() ? new String[0] : listed.split(", ");
        Object[] values = new Object[texts.length];
        for (int k = 0; k < texts.length; k++) {
            boolean isLong = method.getParameterTypes()[k] == long.class;
            long value = Long.parseLong(texts[k].replace("L", ""));
            values[k] = isLong ? (Object) value : (Object) (int) value;
        }
        return method.invoke(x, values);
    }

    private static void everyCallIsNamed(String page) {
        TreeSet<String> names = new TreeSet<>();
        for (Method method : ClearingFiles.class.getDeclaredMethods()) {
            if (Modifier.isPublic(method.getModifiers())) {
                names.add(method.getName());
            }
        }
        for (String name : names) {
            Check.due("README.md lists " + name, page.contains("`" + name + "("), true);
        }
    }
}
