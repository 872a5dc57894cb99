import java.io.IOException;
import java.lang.reflect.Constructor;
import java.lang.reflect.Field;
import java.lang.reflect.Method;
import java.lang.reflect.Modifier;
import java.util.Arrays;
import java.util.Set;
import java.util.TreeSet;
import java.util.stream.Collectors;

/** The public face of the document, and rule 1 of LANGUAGE.md. */
public final class FaceTest {
    private static final String[] FACE = {
        "int append(int, int, int, int, int) IllegalStateException",
        "int truncate(int) IndexOutOfBoundsException",
        "int load() IllegalArgumentException",
        "int errorCode()",
        "int errorPosition()",
        "int count(int) IllegalArgumentException",
        "boolean isSiding(int) IndexOutOfBoundsException",
        "int train(int, int) IndexOutOfBoundsException, IllegalArgumentException",
        "int order(boolean, int, int) IndexOutOfBoundsException",
        "int planned(int, int, boolean) IndexOutOfBoundsException, NoSuchElementException",
        "int plan(int, int, int) IndexOutOfBoundsException, IllegalStateException",
        "int setSupplement(int, int, int) IndexOutOfBoundsException, IllegalArgumentException",
        "int supplement(int, int) IndexOutOfBoundsException",
        "int buffer(int, int) IndexOutOfBoundsException, NoSuchElementException",
        "double speed(int) IndexOutOfBoundsException",
        "int lastArrival() NoSuchElementException",
        "int disturb(int, int, boolean, int) IndexOutOfBoundsException, IllegalArgumentException, "
                + "NoSuchElementException, IllegalStateException",
        "int clear()",
        "int actual(int, int, boolean) IndexOutOfBoundsException, NoSuchElementException",
        "int totalDelay()",
        "int lateTrains()",
        "double punctuality(int) IllegalArgumentException, NoSuchElementException",
        "boolean isKept(int) IndexOutOfBoundsException",
        "int missed()",
        "int cause(int, int, boolean) IndexOutOfBoundsException, NoSuchElementException",
        "int recovery()",
        "int overtake(int, int, int) IndexOutOfBoundsException, IllegalStateException",
        "int bestOvertaking()",
        "int dispatch()",
        "int tolerance(int, int) IndexOutOfBoundsException, NoSuchElementException",
        "int leastDelay(int, int) IndexOutOfBoundsException, IllegalArgumentException",
        "int distribute(int, int) IndexOutOfBoundsException, IllegalArgumentException",
    };

    private static final Check check = new Check();

    public static void main(String[] args) throws IOException {
        face();
        document();
        privateNames();
        check.end();
    }

    /** The list above is the one of the document. */
    private static void document() throws IOException {
        Set<String> lines = new TreeSet<>();
        for (String line : new Document().face()) {
            String types = line.replaceAll("\\b(int|boolean) \\w+(?=[,)])", "$1");
            lines.add(types.replace(") throws ", ") ").replace(";", ""));
        }
        Set<String> due = new TreeSet<>(Arrays.asList(FACE));
        due.add("static final int NONE = -1");
        due.add("TrainTimetable()");
        if (Document.isThere()) {
            check.equal("the face in the document", due, lines);
        }
    }

    private static String names(Class<?>[] types) {
        return Arrays.stream(types).map(Class::getSimpleName).collect(Collectors.joining(", "));
    }

    private static String describe(Method method) {
        String head = method.getReturnType().getSimpleName() + " " + method.getName();
        return (head + "(" + names(method.getParameterTypes()) + ") " + names(method.getExceptionTypes())).trim();
    }

    private static void face() {
        Class<?> type = TrainTimetable.class;
        check.equal("public and final", Modifier.PUBLIC | Modifier.FINAL, type.getModifiers());
        check.equal("NONE", -1, TrainTimetable.NONE);
        Set<String> methods = new TreeSet<>();
        for (Method method : type.getDeclaredMethods()) {
            if (!Modifier.isPrivate(method.getModifiers())) {
                check.equal(method.getName() + " is public", Modifier.PUBLIC, method.getModifiers());
                methods.add(describe(method));
            }
        }
        check.equal("methods", new TreeSet<>(Arrays.asList(FACE)), methods);
        for (Field field : type.getDeclaredFields()) {
            boolean isFace = field.getName().equals("NONE");
            check.equal(field.getName() + " is private", !isFace, Modifier.isPrivate(field.getModifiers()));
        }
        for (Constructor<?> constructor : type.getDeclaredConstructors()) {
            check.equal("constructor", "public TrainTimetable()", constructor.toString());
        }
        for (Class<?> inner : type.getDeclaredClasses()) {
            check.equal(inner + " is static", true, Modifier.isStatic(inner.getModifiers()));
            check.equal(inner + " is private", true, Modifier.isPrivate(inner.getModifiers()));
        }
    }

    private static void privateNames() {
        Set<String> taken = new TreeSet<>();
        for (String method : FACE) {
            taken.add(method.substring(method.indexOf(' ') + 1, method.indexOf('(')));
        }
        TreeSet<String> names = new TreeSet<>();
        for (Method method : TrainTimetable.class.getDeclaredMethods()) {
            if (Modifier.isPrivate(method.getModifiers())) {
                names.add(method.getName());
            }
        }
        for (Class<?> inner : TrainTimetable.class.getDeclaredClasses()) {
            for (Method method : inner.getDeclaredMethods()) {
                names.add(method.getName());
            }
        }
        names.retainAll(taken);
        check.equal("names of the face inside", new TreeSet<String>(), names);
    }
}
