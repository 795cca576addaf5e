import java.lang.reflect.Constructor;
import java.lang.reflect.Field;
import java.lang.reflect.Method;
import java.lang.reflect.Modifier;
import java.util.ArrayList;
import java.util.Arrays;
import java.util.List;

/** The public face: every constructor, method and constant, with each throws clause in its order. */
public final class FaceTest {
    private static final String[] FACE = {
        "int army(int,int) Index State",
        "int drop(int) Index",
        "int hold(int) Index",
        "int move(int,int) Index Argument",
        "int support(int,int,int) Index Argument",
        "int open()",
        "int append(int) Argument State",
        "int clearBuffer()",
        "int firstError()",
        "int orders() Argument",
        "int undo() State",
        "int keep()",
        "int restore() State",
        "int armyOf(int,int) Index Argument",
        "int field(int,int) Index Argument",
        "int seat(int,int) Index Argument",
        "int count(int) Argument",
        "int ifOpened(int,int) Index Argument",
        "int canReach(int) Index",
        "int danger()",
        "int ifYear(int) Index",
        "double success()",
        "long digest()",
    };

    public static void main(String[] args) {
        Class<?> face = FogOrders.class;
        Check.note(Modifier.isPublic(face.getModifiers()) && Modifier.isFinal(face.getModifiers()),
                "the class is public and final");
        methods(face);
        constants(face);
        classesInside(face);
        Constructor<?>[] makers = face.getDeclaredConstructors();
        Check.due("constructors", makers.length, 1);
        Check.note(Modifier.isPublic(makers[0].getModifiers()) && makers[0].getParameterCount() == 0,
                "the constructor is public and takes nothing");
        Check.end("FaceTest");
    }

    private static void methods(Class<?> face) {
        List<String> found = new ArrayList<>();
        List<String> names = new ArrayList<>();
        for (Method method : face.getDeclaredMethods()) {
            if (!Modifier.isPrivate(method.getModifiers())) {
                found.add(line(method));
                names.add(method.getName());
            }
        }
        for (String want : FACE) {
            Check.note(found.contains(want), "the face has " + want);
        }
        Check.due("methods that are not private", found.size(), FACE.length);
        for (Method method : face.getDeclaredMethods()) {
            Check.note(!Modifier.isPrivate(method.getModifiers()) || !names.contains(method.getName()),
                    "no private method bears the name " + method.getName());
        }
    }

    private static String line(Method method) {
        StringBuilder text = new StringBuilder();
        text.append(method.getReturnType().getSimpleName()).append(' ').append(method.getName()).append('(');
        String[] types = Arrays.stream(method.getParameterTypes()).map(Class::getSimpleName).toArray(String[]::new);
        text.append(String.join(",", types)).append(')');
        for (Class<?> thrown : method.getExceptionTypes()) {
            text.append(' ').append(thrown.getSimpleName()
                    .replace("IndexOutOfBoundsException", "Index")
                    .replace("IllegalStateException", "State")
                    .replace("IllegalArgumentException", "Argument"));
        }
        return text.toString();
    }

    private static void constants(Class<?> face) {
        Check.due("NONE", FogOrders.NONE, -1);
        for (Field field : face.getDeclaredFields()) {
            int kind = field.getModifiers();
            Check.note(Modifier.isPrivate(kind) || field.getName().equals("NONE"), field.getName() + " is private");
            Check.note(!Modifier.isStatic(kind) || Modifier.isFinal(kind), field.getName() + " is final if static");
        }
    }

    private static void classesInside(Class<?> face) {
        for (Class<?> inside : face.getDeclaredClasses()) {
            int kind = inside.getModifiers();
            Check.note(Modifier.isStatic(kind) && !Modifier.isPublic(kind) && !Modifier.isProtected(kind),
                    inside.getName() + " is static, and private or package-visible");
            Check.note(Arrays.stream(inside.getDeclaredFields()).filter(f -> !Modifier.isStatic(f.getModifiers()))
                    .count() <= 20, inside.getName() + " has at most twenty fields");
        }
    }
}
