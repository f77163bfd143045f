import java.io.IOException;
import java.lang.reflect.InvocationTargetException;
import java.lang.reflect.Method;
import java.lang.reflect.Modifier;
import java.nio.file.Files;
import java.nio.file.Path;
import java.util.regex.Matcher;
import java.util.regex.Pattern;

/** README.md: its text is read, its calls answer what stands behind them, and it names every call. */
public final class ReadmeTest {
    private static final Pattern TEXT = Pattern.compile("```text\n(.*?)```", Pattern.DOTALL);
    private static final Pattern CALL = Pattern.compile("x\\.(\\w+)\\(([^()]*)\\); +// (-?\\d+|true|false): ");

    public static void main(String[] args) throws IOException, ReflectiveOperationException {
        String page = Files.readString(Path.of("README.md"));
        Matcher text = TEXT.matcher(page);
        Check.due("README has a text", true, text.find());
        EatenToll x = Check.told(text.group(1));
        int calls = 0;
        for (Matcher call = CALL.matcher(page); call.find(); calls++) {
            long want = call.group(3).equals("true") ? 1 : call.group(3).equals("false") ? 0 : Long.parseLong(call.group(3));
            Check.due(call.group(1) + "(" + call.group(2) + ")", want, answer(x, call.group(1), call.group(2)));
        }
        Check.due("as many calls as lines with an answer", page.split("\nx\\.", -1).length - 1, calls);
        for (Method m : EatenToll.class.getDeclaredMethods()) {
            if (Modifier.isPublic(m.getModifiers())) {
                Check.due("README names " + m.getName(), true, page.contains("`" + m.getName() + "`"));
            }
        }
        Check.end();
    }

    private static long answer(EatenToll x, String name, String told) throws ReflectiveOperationException {
        String[] parts = told.isEmpty() ? new String[0] : told.split(", ");
        for (Method m : EatenToll.class.getDeclaredMethods()) {
            if (m.getName().equals(name) && m.getParameterCount() == parts.length) {
                return asNumber(m, x, parts);
            }
        }
        throw new NoSuchMethodException(name);
    }

    private static long asNumber(Method m, EatenToll x, String[] parts)
        throws IllegalAccessException, InvocationTargetException {
        Object[] arguments = new Object[parts.length];
        for (int i = 0; i < parts.length; i++) {
            boolean isInt = m.getParameterTypes()[i] == int.class;
            arguments[i] = isInt ? (Object) Integer.valueOf(parts[i]) : (Object) Boolean.valueOf(parts[i]);
        }
        Object answer = m.invoke(x, arguments);
        return answer instanceof Boolean yes ? (yes ? 1 : 0) : ((Number) answer).longValue();
    }
}
