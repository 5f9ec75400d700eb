import java.lang.reflect.Field;
import java.lang.reflect.Method;
import java.lang.reflect.Modifier;
import java.util.Arrays;
import java.util.TreeSet;

/** The class's face: what the document lists, and nothing else. */
final class FaceTest {
    private static final String[] METHODS = {
        "int loan(int,int,int) IndexOutOfBoundsException IllegalArgumentException",
        "int strike(int,int) IndexOutOfBoundsException IllegalStateException",
        "int fade()",
        "int bar(int,int) IndexOutOfBoundsException IllegalArgumentException",
        "void walk(int,int) IllegalArgumentException",
        "int landed(int,int) IndexOutOfBoundsException",
        "int rest(int,int) IndexOutOfBoundsException",
        "int sent(int,int,int) IndexOutOfBoundsException",
        "int pushes()",
        "int listed(int,int) IndexOutOfBoundsException",
        "int way(int,int,int,int) IndexOutOfBoundsException IllegalArgumentException",
        "double share(int,int) IndexOutOfBoundsException",
        "char text(int,int,int) IndexOutOfBoundsException",
    };

    public static void main(String[] args) {
        Check.same("NONE", Shelfwalk.NONE, -1);
        Check.same("OPEN", Shelfwalk.OPEN, 0);
        Check.same("HIDDEN", Shelfwalk.HIDDEN, 1);
        Check.same("CLOSED", Shelfwalk.CLOSED, 2);
        Check.holds("public and final", Modifier.isPublic(Shelfwalk.class.getModifiers())
            && Modifier.isFinal(Shelfwalk.class.getModifiers()));
        Check.same("constructors", Shelfwalk.class.getDeclaredConstructors().length, 1);
        Check.same("methods", methods().toString(), new TreeSet<>(Arrays.asList(METHODS)).toString());
        Check.same("constants", fields().toString(), "[CLOSED, HIDDEN, NONE, OPEN]");
        Check.holds("no private method bears a public one's name", privateNamesAreOther());
        Check.end("FaceTest");
    }

    private static TreeSet<String> methods() {
        TreeSet<String> found = new TreeSet<>();
        for (Method method : Shelfwalk.class.getDeclaredMethods()) {
            if (!Modifier.isPrivate(method.getModifiers()) && !method.isSynthetic()) {
                found.add(face(method));
            }
        }
        return found;
    }

    private static String face(Method method) {
        StringBuilder face = new StringBuilder();
        face.append(method.getReturnType().getSimpleName()).append(' ').append(method.getName()).append('(');
        for (int k = 0; k < method.getParameterCount(); k++) {
            face.append(k == 0 ? "" : ",").append(method.getParameterTypes()[k].getSimpleName());
        }
        face.append(')');
        for (Class<?> thrown : method.getExceptionTypes()) {
            face.append(' ').append(thrown.getSimpleName());
        }
        return face.toString();
    }

    private static TreeSet<String> fields() {
        TreeSet<String> found = new TreeSet<>();
        for (Field field : Shelfwalk.class.getDeclaredFields()) {
            if (!Modifier.isPrivate(field.getModifiers()) && !field.isSynthetic()) {
                found.add(field.getName());
            }
        }
        return found;
    }

    private static boolean privateNamesAreOther() {
        TreeSet<String> open = new TreeSet<>();
        TreeSet<String> own = new TreeSet<>();
        for (Method method : Shelfwalk.class.getDeclaredMethods()) {
            (Modifier.isPrivate(method.getModifiers()) ? own : open).add(method.getName());
        }
        own.retainAll(open);
        return own.isEmpty();
    }
}
