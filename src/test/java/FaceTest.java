import java.io.IOException;
import java.lang.reflect.Constructor;
import java.lang.reflect.Field;
import java.lang.reflect.Method;
import java.lang.reflect.Modifier;
import java.nio.file.Files;
import java.nio.file.Path;
import java.util.Arrays;
import java.util.List;
import java.util.Set;
import java.util.TreeSet;
import java.util.regex.Pattern;
import java.util.stream.Collectors;

/** The public face of the document, and what LANGUAGE.md says of the file that can be seen without running it. */
public final class FaceTest {
    private static final Check check = new Check("FaceTest");
    private static final String NO_SUCH = " IndexOutOfBoundsException";
    private static final String BAD = " IllegalArgumentException";
    private static final String FULL = " IllegalStateException";

    private static final List<String> FACE = List.of(
        "int sign(int)" + BAD + FULL, "int digits(int)" + BAD + FULL, "int letters(int, int)" + BAD + FULL,
        "int three(int, int, int, int)" + BAD + FULL, "int clear()", "int tell(int, int)" + BAD,
        "int setShare(int)" + BAD, "int setRule(int, int)" + NO_SUCH + BAD, "int used(int)" + BAD,
        "int score(int)" + BAD, "int many(int)" + BAD, "int width(int)" + NO_SUCH,
        "int cell(int, int, int)" + NO_SUCH + BAD, "int signAt(int, int, int)" + NO_SUCH,
        "int column(int, int)" + NO_SUCH + BAD, "int extreme(int, int)" + NO_SUCH + BAD, "long sum(int)" + NO_SUCH,
        "double mean(int)" + NO_SUCH, "int fault(int, int)" + NO_SUCH + BAD, "int kept(int)" + NO_SUCH,
        "int value(int, int)" + NO_SUCH, "int find(int, int)" + NO_SUCH, "int keptWith(int)" + BAD,
        "int kindWith(int, int)" + NO_SUCH + BAD, "long digest()");

    private static final String[] NOT_ALLOWED = {"->", "::", "\\bimport\\b", "\\bpackage\\b", "\\btry\\b", "\\bcatch\\b",
        "\\bfinally\\b", "\\bsynchronized\\b", "\\bassert\\b", "\\bvar\\b", "\\bjava\\.", "\\bSystem\\b", "\\bObject\\b",
        "\\bThread\\b", "Exact\\b", "\\bstatic \\{", "[^\\x00-\\x7f]"};

    public static void main(String[] args) throws IOException {
        face();
        hiddenMembers();
        source();
        check.end();
    }

    private static String shown(Method method) {
        String throwing = Arrays.stream(method.getExceptionTypes()).map(type -> " " + type.getSimpleName())
            .collect(Collectors.joining());
        String types = Arrays.stream(method.getParameterTypes()).map(Class::getSimpleName)
            .collect(Collectors.joining(", "));
        return method.getReturnType().getSimpleName() + " " + method.getName() + "(" + types + ")" + throwing;
    }

    private static void face() {
        Set<String> found = new TreeSet<>();
        for (Method method : Tallow.class.getDeclaredMethods()) {
            if (!Modifier.isPrivate(method.getModifiers())) {
                check.same(method.getName() + " is public and not static", method.getModifiers(), Modifier.PUBLIC);
                found.add(shown(method));
            }
        }
        check.same("the public methods", found.toString(), new TreeSet<>(FACE).toString());
        check.same("the class is public and final", Tallow.class.getModifiers(), Modifier.PUBLIC | Modifier.FINAL);
        Constructor<?>[] constructors = Tallow.class.getDeclaredConstructors();
        check.same("one constructor", constructors.length, 1);
        check.same("it is public", constructors[0].getModifiers(), Modifier.PUBLIC);
        check.same("it takes nothing", constructors[0].getParameterCount(), 0);
    }

    private static void hiddenMembers() {
        for (Field field : Tallow.class.getDeclaredFields()) {
            check.same(field.getName() + " is private", Modifier.isPrivate(field.getModifiers()) ? 1 : 0, 1);
        }
        Set<String> names = FACE.stream().map(line -> line.replaceAll(".* (\\w+)\\(.*", "$1"))
            .collect(Collectors.toSet());
        check.same("names of the face", names.size(), 25);
        check.same("few classes inside", Tallow.class.getDeclaredClasses().length <= 12 ? 1 : 0, 1);
        for (Class<?> inside : Tallow.class.getDeclaredClasses()) {
            check.same(inside + " is static", Modifier.isStatic(inside.getModifiers()) ? 1 : 0, 1);
            for (Method method : inside.getDeclaredMethods()) {
                check.same("a name of the face inside: " + method, names.contains(method.getName()) ? 1 : 0, 0);
            }
            long fields = Arrays.stream(inside.getDeclaredFields())
                .filter(field -> !Modifier.isStatic(field.getModifiers())).count();
            check.same("at most twenty fields in " + inside, fields <= 20 ? 1 : 0, 1);
            for (Field field : inside.getDeclaredFields()) {
                boolean isRight = !Modifier.isStatic(field.getModifiers()) || Modifier.isFinal(field.getModifiers());
                check.same("static fields are final: " + field, isRight ? 1 : 0, 1);
            }
        }
    }

    private static void source() throws IOException {
        String source = Files.readString(Path.of("src/main/java/Tallow.java"));
        for (String word : NOT_ALLOWED) {
            check.same("places of " + word, Pattern.compile(word).matcher(source).find() ? 1 : 0, 0);
        }
    }
}
