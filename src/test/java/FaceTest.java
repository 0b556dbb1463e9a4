import java.lang.reflect.Constructor;
import java.lang.reflect.Field;
import java.lang.reflect.Method;
import java.lang.reflect.Modifier;
import java.util.Arrays;
import java.util.TreeSet;
import java.util.stream.Collectors;

/** The public face is the document's, signature by signature, and nothing else can be reached. */
public final class FaceTest {
    private static final String FACE = """
            public static final int NONE = -1
            public ()
            public int put(int, int) throws IllegalStateException, IllegalArgumentException, UnsupportedOperationException
            public int remove(int) throws IllegalStateException, NoSuchElementException, UnsupportedOperationException
            public int get(int, int) throws IllegalStateException, IllegalArgumentException, NoSuchElementException
            public int next(int, int) throws IllegalStateException, IllegalArgumentException
            public int count(int) throws IllegalStateException, IllegalArgumentException
            public int nodes(int) throws IllegalStateException, IllegalArgumentException
            public int shared(int, int) throws IllegalStateException, IllegalArgumentException
            public int differ(int, int) throws IllegalStateException, IllegalArgumentException
            public int snapshot() throws IllegalStateException, UnsupportedOperationException
            public int rollback(int) throws IllegalStateException, IllegalArgumentException
            public int drop(int) throws IllegalStateException, IllegalArgumentException
            public int commit() throws IllegalStateException
            public int free() throws IllegalStateException
            public int due() throws IllegalStateException
            public boolean order(int)
            public int recover()
            public int writes()
            public boolean down()
            """;

    public static void main(String[] args) throws IllegalAccessException {
        TreeSet<String> due = new TreeSet<>(FACE.lines().toList());
        TreeSet<String> got = faceOf(FrozenBranches.class);
        boolean right = true;
        if (!got.equals(due)) {
            right = false;
            got.stream().filter(each -> !due.contains(each)).forEach(each -> System.out.println("too much: " + each));
            due.stream().filter(each -> !got.contains(each)).forEach(each -> System.out.println("missing: " + each));
        }
        if (FrozenBranches.class.getModifiers() != (Modifier.PUBLIC | Modifier.FINAL)) {
            right = false;
            System.out.println("the class is not just public and final");
        }
        if (!right) {
            System.exit(1);
        }
    }

    private static TreeSet<String> faceOf(Class<?> type) throws IllegalAccessException {
        TreeSet<String> face = new TreeSet<>();
        for (Field field : type.getDeclaredFields()) {
            if (!Modifier.isPrivate(field.getModifiers())) {
                face.add(Modifier.toString(field.getModifiers()) + " " + field.getType().getSimpleName()
                        + " " + field.getName() + " = " + field.get(null));
            }
        }
        for (Constructor<?> each : type.getDeclaredConstructors()) {
            face.add(Modifier.toString(each.getModifiers()) + " " + names(each.getParameterTypes(), "(", ")"));
        }
        for (Method each : type.getDeclaredMethods()) {
            if (!Modifier.isPrivate(each.getModifiers())) {
                face.add(Modifier.toString(each.getModifiers()) + " " + each.getReturnType().getSimpleName()
                        + " " + each.getName() + names(each.getParameterTypes(), "(", ")")
                        + (each.getExceptionTypes().length == 0 ? "" : names(each.getExceptionTypes(), " throws ", "")));
            }
        }
        return face;
    }

    private static String names(Class<?>[] types, String before, String behind) {
        return Arrays.stream(types).map(Class::getSimpleName).collect(Collectors.joining(", ", before, behind));
    }
}
