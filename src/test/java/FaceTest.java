import java.lang.reflect.Executable;
import java.lang.reflect.Field;
import java.lang.reflect.Method;
import java.lang.reflect.Modifier;
import java.util.Arrays;
import java.util.TreeSet;

/** The public face is the document's, and nothing else can be seen from outside. */
public final class FaceTest {
    private static final Check CHECK = new Check();

    public static void main(String[] args) {
        TreeSet<String> face = new TreeSet<>();
        for (Field field : FaxPages.class.getDeclaredFields()) {
            if (!Modifier.isPrivate(field.getModifiers())) {
                face.add(Modifier.toString(field.getModifiers()) + " " + field.getType() + " " + field.getName());
            }
        }
        for (Method method : FaxPages.class.getDeclaredMethods()) {
            if (!Modifier.isPrivate(method.getModifiers())) {
                face.add(method.getReturnType() + " " + method.getName() + told(method));
            }
        }
        for (Executable constructor : FaxPages.class.getDeclaredConstructors()) {
            face.add("constructor" + told(constructor));
        }
        TreeSet<String> due = new TreeSet<>(Arrays.asList(
            "public static final int HEADER", "public static final int TAGS", "public static final int STRIPS",
            "public static final int DATA", "public static final int NONE",
            "constructor public [] []",
            "void blank public [boolean, int, int] [class java.lang.IllegalArgumentException]",
            "void set public [int, int, int] [class java.lang.IndexOutOfBoundsException,"
                + " class java.lang.IllegalArgumentException]",
            "int get public [int, int] []",
            "int info public [int] []",
            "int write public [int, boolean, int] [class java.lang.IllegalArgumentException,"
                + " class java.lang.IllegalStateException]",
            "int read public [] []",
            "int size public [] []",
            "int at public [int] []",
            "int put public [int, int] [class java.lang.IndexOutOfBoundsException,"
                + " class java.lang.IllegalArgumentException]",
            "boolean add public [int] []",
            "int cut public [int] [class java.lang.IllegalArgumentException]"));
        CHECK.same("the face", String.join("\n", face), String.join("\n", due));
        CHECK.isTrue("final", Modifier.isFinal(FaxPages.class.getModifiers()));
        int[] constants = {FaxPages.HEADER, FaxPages.TAGS, FaxPages.STRIPS, FaxPages.DATA, FaxPages.NONE};
        CHECK.same("constants", Arrays.toString(constants), "[-1, -2, -3, -4, -9]");
        CHECK.end();
    }

    private static String told(Executable call) {
        return " " + Modifier.toString(call.getModifiers()) + " " + Arrays.toString(call.getParameterTypes())
            + " " + Arrays.toString(call.getExceptionTypes());
    }
}
