import java.io.IOException;
import java.lang.reflect.InvocationTargetException;
import java.lang.reflect.Method;
import java.lang.reflect.Modifier;
import java.nio.file.Files;
import java.nio.file.Path;
import java.util.Set;
import java.util.TreeSet;
import java.util.regex.Matcher;
import java.util.regex.Pattern;

/** README.md's example: each line answers what stands behind it, and every call of the face comes in it. */
public final class ReadmeTest {
    private static final Due DUE = new Due("ReadmeTest");
    private static final Pattern BLOCK = Pattern.compile("(?s)```java\n(.*?)```");
    private static final Pattern CALL = Pattern.compile("house[.](\\w+)\\(([^)]*)\\); +// (-?\\d+|true|false)\\b.*");

    public static void main(String[] args) throws IOException, ReflectiveOperationException {
        Matcher block = BLOCK.matcher(Files.readString(Path.of("README.md")));
        DUE.is("there is an example", block.find(), true);
        EclipseHouse house = new EclipseHouse();
        Set<String> asked = new TreeSet<>();
        for (String line : block.group(1).split("\n")) {
            if (line.startsWith("house.")) {
                Matcher call = CALL.matcher(line);
                DUE.is("can be read: " + line, call.matches(), true);
                asked.add(call.group(1));
                DUE.is(line, answer(house, call.group(1), call.group(2)).equals(call.group(3)), true);
            }
        }
        for (Method m : EclipseHouse.class.getDeclaredMethods()) {
            if (Modifier.isPublic(m.getModifiers())) {
                DUE.is("the example asks " + m.getName(), asked.contains(m.getName()), true);
            }
        }
        DUE.finish();
    }

    private static String answer(EclipseHouse house, String name, String list) throws IllegalAccessException, InvocationTargetException {
        String[] words = list.split(", *");
        Object[] numbers = new Object[words.length];
        for (int i = 0; i < words.length; i++) {
            numbers[i] = Integer.decode(words[i]);
        }
        for (Method m : EclipseHouse.class.getDeclaredMethods()) {
            if (m.getName().equals(name) && m.getParameterCount() == numbers.length) {
                return String.valueOf(m.invoke(house, numbers));
            }
        }
        return "no such call";
    }
}
