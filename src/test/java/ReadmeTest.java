import java.io.IOException;
import java.lang.reflect.Field;
import java.lang.reflect.InvocationTargetException;
import java.lang.reflect.Method;
import java.lang.reflect.Modifier;
import java.nio.file.Files;
import java.nio.file.Path;
import java.util.Arrays;
import java.util.regex.Matcher;
import java.util.regex.Pattern;
import java.util.stream.Collectors;

/** README.md names the whole face, and the calls of its example answer what it says. */
public final class ReadmeTest {
    private static final Check CHECK = new Check();
    private static final Pattern CALL = Pattern.compile("^pages\\.(\\w+)\\((.*)\\); *// ([\\w-]+):", Pattern.MULTILINE);

    public static void main(String[] args) throws IOException, IllegalAccessException {
        String readme = Files.readString(Path.of("README.md"));
        namesTheFace(readme.replaceAll("\\s+", " "));
        exampleAnswersSo(readme);
        CHECK.end();
    }

    private static void namesTheFace(String text) throws IllegalAccessException {
        for (Field field : FaxPages.class.getFields()) {
            String row = "| `" + field.getName() + "` | " + field.getInt(null) + " |";
            CHECK.isTrue("README.md has " + row, text.contains(row));
        }
        CHECK.isTrue("README.md has the constructor", text.contains("`FaxPages()`: "));
        for (Method method : FaxPages.class.getDeclaredMethods()) {
            if (Modifier.isPublic(method.getModifiers())) {
                CHECK.isTrue("README.md has " + method, Pattern.compile(headOf(method)).matcher(text).find());
            }
        }
    }

    /** A pattern, as the names of parameters are not known here. */
    private static String headOf(Method method) {
        String parameters = Arrays.stream(method.getParameterTypes()).map(type -> type + " \\w+")
            .collect(Collectors.joining(", "));
        String exceptions = Arrays.stream(method.getExceptionTypes()).map(Class::getSimpleName)
            .collect(Collectors.joining(", "));
        return "`" + method.getReturnType() + " " + method.getName() + "\\(" + parameters + "\\)"
            + (exceptions.isEmpty() ? "" : " throws " + exceptions) + "`: ";
    }

    private static void exampleAnswersSo(String readme) throws IllegalAccessException {
        FaxPages pages = new FaxPages();
        Matcher call = CALL.matcher(readme);
        int calls = 0;
        while (call.find()) {
            calls++;
            String due = valueOf(call.group(3));
            CHECK.same(call.group(1) + "(" + call.group(2) + ")", answer(pages, call.group(1), call.group(2)), due);
        }
        CHECK.same("calls of the example", calls, readme.split("\npages\\.", -1).length - 1);
        CHECK.isTrue("there is an example", calls > 0);
    }

    private static String valueOf(String answer) throws IllegalAccessException {
        for (Field field : FaxPages.class.getFields()) {
            if (field.getName().equals(answer)) {
                return String.valueOf(field.getInt(null));
            }
        }
        return answer;
    }

    private static String answer(FaxPages pages, String name, String arguments) throws IllegalAccessException {
        Object[] values = Arrays.stream(arguments.split(", ")).filter(text -> !text.isEmpty())
            .map(text -> text.matches("true|false") ? (Object) Boolean.valueOf(text) : Integer.valueOf(text))
            .toArray();
        for (Method method : FaxPages.class.getDeclaredMethods()) {
            if (method.getName().equals(name)) {
                try {
                    Object got = method.invoke(pages, values);
                    return got == null ? "nothing" : got.toString();
                } catch (InvocationTargetException e) {
                    return e.getCause().getClass().getSimpleName();
                }
            }
        }
        return "no such method";
    }
}
