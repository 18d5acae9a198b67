import java.lang.reflect.Constructor;
import java.lang.reflect.Field;
import java.lang.reflect.Method;
import java.lang.reflect.Modifier;
import java.util.Arrays;
import java.util.TreeSet;

/** The class has the document's face and no other member that is not private. */
public final class FaceTest {
    private static final String[] FACE = {
        "NONE = -1", "SIGN = -2", "TWICE = -3", "NUMBER = -4", "HEAVY = -5", "MANY = -6", "RING = -7", "VALENCE = -8",
        "IsomerList()",
        "int type(char) IllegalStateException", "int erase()", "int formula()", "int read()", "int place()",
        "int count(int)", "int element(int) IndexOutOfBoundsException",
        "int bond(int,int,int) IndexOutOfBoundsException", "int hydrogens(int,int) IndexOutOfBoundsException",
        "int ways(int) IndexOutOfBoundsException", "int write(int) IndexOutOfBoundsException", "char character(int)"};

    public static void main(String[] args) throws IllegalAccessException {
        Check.due("face", String.join("\n", visible()), String.join("\n", new TreeSet<>(Arrays.asList(FACE))));
        Check.due("names of the face that other methods bear", namesBorneTwice().toString(), "[]");
        Check.due("final", Modifier.isFinal(IsomerList.class.getModifiers()) ? 1 : 0, 1);
        Check.end();
    }

    private static TreeSet<String> visible() throws IllegalAccessException {
        TreeSet<String> found = new TreeSet<>();
        for (Field field : IsomerList.class.getDeclaredFields()) {
            if (!Modifier.isPrivate(field.getModifiers())) {
                found.add(field.getName() + " = " + field.getInt(null));
            }
        }
        for (Constructor<?> made : IsomerList.class.getDeclaredConstructors()) {
            found.add(made.getName() + types(made.getParameterTypes()));
        }
        for (Method method : IsomerList.class.getDeclaredMethods()) {
            if (!Modifier.isPrivate(method.getModifiers())) {
                String thrown = method.getExceptionTypes().length == 0 ? "" : " " + method.getExceptionTypes()[0].getSimpleName();
                found.add(method.getReturnType() + " " + method.getName() + types(method.getParameterTypes()) + thrown);
            }
        }
        return found;
    }

    private static TreeSet<String> namesBorneTwice() {
        TreeSet<String> face = new TreeSet<>();
        TreeSet<String> others = new TreeSet<>();
        for (Method method : IsomerList.class.getDeclaredMethods()) {
            (Modifier.isPublic(method.getModifiers()) ? face : others).add(method.getName());
        }
        for (Class<?> inside : IsomerList.class.getDeclaredClasses()) {
            for (Method method : inside.getDeclaredMethods()) {
                others.add(method.getName());
            }
        }
        others.retainAll(face);
        return others;
    }

    private static String types(Class<?>[] types) {
        return "(" + String.join(",", Arrays.stream(types).map(Class::getName).toList()) + ")";
    }
}
