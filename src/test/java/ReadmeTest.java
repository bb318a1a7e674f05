import java.io.IOException;
import java.lang.reflect.InvocationTargetException;
import java.lang.reflect.Method;
import java.lang.reflect.Modifier;
import java.nio.file.Files;
import java.nio.file.Path;
import java.util.Arrays;
import java.util.Set;
import java.util.TreeSet;
import java.util.regex.Matcher;
import java.util.regex.Pattern;

/** The calls that README.md shows answer what it says, and it shows each call of the face. */
public final class ReadmeTest {
    private static final Pattern SHOWN = Pattern.compile(
        "(?m)^importer\\.(\\w+)\\(([-\\d, ]*)\\);\\s*// (throws \\w+|-?\\d+(?:\\.\\d+)?)(?=:|$)");
    private static final Check check = new Check("ReadmeTest");

    public static void main(String[] args) throws IOException, IllegalAccessException {
        String readme = Files.readString(Path.of("README.md"));
        Set<String> shown = new TreeSet<>();
        Tallow importer = new Tallow();
        Matcher call = SHOWN.matcher(readme);
        int calls = 0;
        while (call.find()) {
            shown.add(call.group(1));
            check.same(call.group(1) + "(" + call.group(2) + ")", answer(importer, call.group(1), call.group(2)),
                call.group(3));
            calls++;
        }
        check.same("calls that are shown with an answer", calls, readme.split("(?m)^importer\\.", -1).length - 1);
        check.same("the calls that are shown", shown.toString(), face().toString());
        check.end();
    }

    private static Set<String> face() {
        Set<String> names = new TreeSet<>();
        for (Method method : Tallow.class.getDeclaredMethods()) {
            if (Modifier.isPublic(method.getModifiers())) {
                names.add(method.getName());
            }
        }
        return names;
    }

    private static String answer(Tallow importer, String name, String numbers) throws IllegalAccessException {
        Object[] given = numbers.isEmpty() ? new Object[0]
            : Arrays.stream(numbers.split(",")).map(number -> Integer.parseInt(number.trim())).toArray();
        for (Method method : Tallow.class.getDeclaredMethods()) {
            if (method.getName().equals(name) && method.getParameterCount() == given.length) {
                try {
                    return String.valueOf(method.invoke(importer, given));
                } catch (InvocationTargetException e) {
                    return "throws " + e.getCause().getClass().getSimpleName();
                }
            }
        }
        return "no such call";
    }
}
