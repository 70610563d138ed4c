import java.lang.reflect.Constructor;
import java.lang.reflect.Field;
import java.lang.reflect.Method;
import java.lang.reflect.Modifier;
import java.util.Arrays;
import java.util.TreeSet;

/** The public face, and nothing beside it that others could see. */
public final class FaceTest {
    private static final String FACE = "int about(int); boolean back(int); boolean begin(int); int call(); int cheapest(); "
        + "int dancer(int,int); boolean draw(int,int); boolean end(int); int failed(int); int fault(); "
        + "boolean feed(int,int,int,int,int); int follow(); int found(int); int load(); void mark(); int may(int); "
        + "int named(int); int resolve(int); boolean row(int); long rows(); boolean set(int,int); int step(); "
        + "int times(int,int,int); int at(int,int)";

    public static void main(String[] args) {
        TreeSet<String> due = new TreeSet<>(Arrays.asList(FACE.split("; ")));
        TreeSet<String> got = new TreeSet<>();
        TreeSet<String> names = new TreeSet<>();
        for (Method method : CallerHall.class.getDeclaredMethods()) {
            if (Modifier.isPublic(method.getModifiers())) {
                StringBuilder types = new StringBuilder();
                for (Class<?> type : method.getParameterTypes()) {
                    types.append(types.length() == 0 ? "" : ",").append(type.getName());
                }
                got.add(method.getReturnType().getName() + " " + method.getName() + "(" + types + ")");
                names.add(method.getName());
            } else {
                Dance.due(method + " is private", Modifier.isPrivate(method.getModifiers()), true);
            }
        }
        Dance.due("the methods are " + got, got.equals(due), true);
        for (Field field : CallerHall.class.getDeclaredFields()) {
            boolean constant = field.getName().equals("NONE") || field.getName().equals("OPEN");
            Dance.due(field + " is seen", Modifier.isPublic(field.getModifiers()), constant);
            Dance.due(field + " is hidden", Modifier.isPrivate(field.getModifiers()), !constant);
            dueStaticFinal(field);
        }
        Constructor<?>[] constructors = CallerHall.class.getDeclaredConstructors();
        Dance.due("constructors", constructors.length, 1);
        Dance.due("its parameters", constructors[0].getParameterCount(), 0);
        Dance.due("public", Modifier.isPublic(constructors[0].getModifiers()), true);
        Dance.due("final", Modifier.isFinal(CallerHall.class.getModifiers()), true);
        for (Class<?> inner : CallerHall.class.getDeclaredClasses()) {
            Dance.due(inner + " is static", Modifier.isStatic(inner.getModifiers()), true);
            Dance.due(inner + " is public", Modifier.isPublic(inner.getModifiers()), false);
            for (Method method : inner.getDeclaredMethods()) {
                Dance.due(method + " has a name of the face", names.contains(method.getName()), false);
                Dance.due(method + " has at most seven parameters", method.getParameterCount() <= 7, true);
            }
            for (Field field : inner.getDeclaredFields()) {
                dueStaticFinal(field);
            }
        }
        Dance.due("classes", CallerHall.class.getDeclaredClasses().length <= 11, true);
        Dance.finish("FaceTest");
    }

    private static void dueStaticFinal(Field field) {
        if (Modifier.isStatic(field.getModifiers())) {
            Dance.due(field + " is final", Modifier.isFinal(field.getModifiers()), true);
        }
    }
}
