import java.lang.reflect.Constructor;
import java.lang.reflect.Field;
import java.lang.reflect.Method;
import java.lang.reflect.Modifier;
import java.util.Arrays;
import java.util.Set;
import java.util.TreeSet;

/** The public face is the document's, and nothing of it is open beyond that. */
public final class FaceTest {
    private static final Set<String> METHODS = Set.of(
            "int act(int, int, int, int)", "int branch(int, int, int, int, int)",
            "boolean tick(int)", "boolean offset(int, int)", "int offer(int, int)",
            "int deliver(int)", "int lose(int)", "boolean spoil(int)", "int flying()",
            "int message(int)", "int status(int, int)", "int ends(int)", "int current(int, int)",
            "int member(int, int)", "int after(int, int)", "int event(int, int)",
            "int linked(int, int)");

    public static void main(String[] args) {
        Check check = new Check("FaceTest");
        check.due("NONE", MeshRoom.NONE, -1);
        check.due("the class is public and final", MeshRoom.class.getModifiers(),
                Modifier.PUBLIC | Modifier.FINAL);
        Set<String> open = new TreeSet<>();
        Set<String> names = new TreeSet<>();
        for (Method method : MeshRoom.class.getDeclaredMethods()) {
            if (!Modifier.isPrivate(method.getModifiers()) && !method.isSynthetic()) {
                open.add(told(method));
                names.add(method.getName());
                check.due(method + " is public alone", method.getModifiers(), Modifier.PUBLIC);
            }
        }
        check.due("the methods are those of the document: " + open, open.equals(METHODS), true);
        for (Method method : MeshRoom.class.getDeclaredMethods()) {
            boolean hides = Modifier.isPrivate(method.getModifiers()) && names.contains(method.getName());
            check.due(method + " bears the name of a public one", hides, false);
        }
        for (Field field : MeshRoom.class.getDeclaredFields()) {
            check.due(field + " is NONE or private",
                    field.getName().equals("NONE") || Modifier.isPrivate(field.getModifiers()), true);
        }
        Constructor<?>[] constructors = MeshRoom.class.getDeclaredConstructors();
        check.due("constructors", constructors.length, 1);
        check.due("the constructor is public", constructors[0].getModifiers(), Modifier.PUBLIC);
        check.due("the constructor's parameters", constructors[0].getParameterCount(), 0);
        for (Class<?> inside : MeshRoom.class.getDeclaredClasses()) {
            check.due(inside + " is static", Modifier.isStatic(inside.getModifiers()), true);
            check.due(inside + " is public", Modifier.isPublic(inside.getModifiers()), false);
        }
        check.end();
    }

    private static String told(Method method) {
        String parameters = Arrays.toString(method.getParameterTypes());
        return method.getReturnType() + " " + method.getName()
                + "(" + parameters.substring(1, parameters.length() - 1) + ")";
    }
}
