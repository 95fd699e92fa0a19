import java.io.IOException;
import java.lang.reflect.Constructor;
import java.lang.reflect.Field;
import java.lang.reflect.Method;
import java.lang.reflect.Modifier;
import java.nio.charset.StandardCharsets;
import java.nio.file.Files;
import java.nio.file.Path;
import java.util.Set;
import java.util.TreeSet;

/** The public face: all that the document names, as it names it, and nothing else. */
public final class FaceTest {
    private static final String CELL = "IndexOutOfBoundsException";
    private static final String ARGUMENT = "IllegalArgumentException";
    private static final String STATE = "IllegalStateException";

    private static final String[] FACE = {
        "int quarter(int,int) " + CELL + " " + ARGUMENT,
        "int zero(int,boolean) " + CELL,
        "int endless(int,boolean) " + CELL,
        "int row(int,int) " + ARGUMENT,
        "int wipe()",
        "int copy(int,int) " + CELL,
        "int swap(int,int) " + CELL,
        "int step(int,int) " + CELL + " " + ARGUMENT,
        "int turn(int) " + CELL,
        "int power(int,int) " + CELL,
        "int lessen(int,int) " + CELL,
        "int log(int,int) " + CELL,
        "int all(int) " + ARGUMENT,
        "int greater(int,int,int) " + CELL,
        "int lesser(int,int,int) " + CELL,
        "int end(boolean,int) " + CELL,
        "int sort()",
        "int kind(int) " + CELL,
        "int of(int) " + CELL,
        "boolean isBelow(int) " + CELL,
        "boolean isZero(int) " + CELL,
        "boolean isEndless(int) " + CELL,
        "int whole(int,int) " + CELL + " " + ARGUMENT + " " + STATE,
        "int height(int) " + CELL + " " + STATE,
        "int digits(int) " + CELL + " " + STATE,
        "int upper(int) " + CELL + " " + STATE,
        "int lower(int) " + CELL + " " + STATE,
        "String text(int) " + CELL,
        "int order(int,int) " + CELL,
        "boolean isAlike(int,int) " + CELL,
        "boolean isNear(int,int) " + CELL,
        "int most(int,int) " + CELL + " " + STATE,
        "boolean isWithin(int,int) " + CELL + " " + STATE,
        "int find(int,boolean) " + CELL,
        "int rank(int) " + CELL,
        "int before(int,int) " + CELL + " " + ARGUMENT,
        "int answer(int,int,int) " + ARGUMENT + " " + STATE,
        "int below(int,int,int) " + ARGUMENT,
        "boolean rises(int,int,int) " + ARGUMENT,
        "boolean between(int) " + ARGUMENT,
        "boolean lies(int) " + ARGUMENT,
        "boolean undone(int) " + ARGUMENT,
        "boolean comesBack(int) " + ARGUMENT,
        "boolean comesForth(int) " + ARGUMENT,
        "boolean opposite(int) " + ARGUMENT,
        "int house(int) " + ARGUMENT,
        "int knock()",
        "boolean isSound()",
        "long digest()",
    };

    public static void main(String[] args) throws IOException {
        Check.same("modifiers", Modifier.toString(Quarterpowers.class.getModifiers()), "public final");
        Set<String> due = new TreeSet<>();
        Set<String> names = new TreeSet<>();
        for (String line : FACE) {
            due.add(line);
            names.add(line.substring(line.indexOf(' ') + 1, line.indexOf('(')));
        }
        Set<String> got = new TreeSet<>();
        for (Method method : Quarterpowers.class.getDeclaredMethods()) {
            if (!Modifier.isPrivate(method.getModifiers())) {
                got.add(line(method));
                Check.same("modifiers of " + method, Modifier.toString(method.getModifiers()), "public");
            }
        }
        Check.same("the face", got, due);
        constructors();
        fields(Quarterpowers.class);
        privateNames(Quarterpowers.class, names);
        for (Class<?> inside : Quarterpowers.class.getDeclaredClasses()) {
            Check.so(inside + " is static", Modifier.isStatic(inside.getModifiers()));
            fields(inside);
            privateNames(inside, names);
        }
        source();
        Check.end("FaceTest");
    }

    private static String line(Method method) {
        StringBuilder line = new StringBuilder(method.getReturnType().getSimpleName() + " " + method.getName() + "(");
        for (Class<?> type : method.getParameterTypes()) {
            line.append(line.charAt(line.length() - 1) == '(' ? "" : ",").append(type.getSimpleName());
        }
        line.append(")");
        for (Class<?> type : method.getExceptionTypes()) {
            line.append(" ").append(type.getSimpleName());
        }
        return line.toString();
    }

    private static void constructors() {
        Constructor<?>[] all = Quarterpowers.class.getDeclaredConstructors();
        Check.same("constructors", all.length, 1);
        Check.same("modifiers of the constructor", Modifier.toString(all[0].getModifiers()), "public");
        Check.same("parameters of the constructor", all[0].getParameterCount(), 0);
    }

    /** Static fields are final; those of the class itself are private. */
    private static void fields(Class<?> type) {
        for (Field field : type.getDeclaredFields()) {
            int modifiers = field.getModifiers();
            Check.so(field + " is no state of the class", !Modifier.isStatic(modifiers) || Modifier.isFinal(modifiers));
            Check.so(field + " is private", type != Quarterpowers.class || Modifier.isPrivate(modifiers));
        }
    }

    private static void privateNames(Class<?> type, Set<String> names) {
        for (Method method : type.getDeclaredMethods()) {
            boolean isFace = type == Quarterpowers.class && Modifier.isPublic(method.getModifiers());
            Check.so(method + " bears no public name", isFace || !names.contains(method.getName()));
        }
    }

    /** What LANGUAGE.md rules out and a plain look can see. */
    private static void source() throws IOException {
        // .ci/run names the place of the source; by hand the tests are run from the checkout's root.
        Path path = Path.of(System.getProperty("source", "src/main/java/Quarterpowers.java"));
        String source = Files.readString(path, StandardCharsets.US_ASCII);
        String[] words = {"import ", "package ", "->", "::", "finally", "assert ", "synchronized", "catch (",
            "Exact(", "static {", "Math.random", "Double.", "Integer.M", "Long.M", "Object", "instanceof"};
        for (String word : words) {
            Check.so("the source is without " + word, !source.contains(word));
        }
    }
}
