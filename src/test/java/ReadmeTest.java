import java.io.IOException;
import java.lang.reflect.Method;
import java.nio.file.Files;
import java.nio.file.Path;
import java.util.regex.Matcher;
import java.util.regex.Pattern;

/** README.md: each line of its example answers what stands behind it, and each call of the face is told there. */
public final class ReadmeTest {
    private static final Due due = new Due("ReadmeTest");
    private static final Pattern FEED = Pattern.compile("feed\\(wax, \"([^\"]*)\"\\);");
    private static final Pattern CALL = Pattern.compile("wax\\.(\\w+)\\(([^)]*)\\); +// (-?\\d+)\\b.*");

    public static void main(String[] args) throws IOException, ReflectiveOperationException {
        String readme = Files.readString(Path.of("README.md"));
        int lines = 0;
        UnevenWax wax = null;
        for (String line : readme.split("\n")) {
            Matcher feed = FEED.matcher(line);
            Matcher call = CALL.matcher(line);
            if (line.equals("UnevenWax wax = new UnevenWax();")) {
                wax = new UnevenWax();
            } else if (feed.matches()) {
                Due.feed(wax, feed.group(1));
            } else if (call.matches()) {
                due.is("README: " + line, ask(wax, call.group(1), call.group(2).split(", ")), Long.parseLong(call.group(3)));
                lines++;
            } else {
                due.isTrue("README: a line that is not looked at: " + line, !line.startsWith("wax.") && !line.startsWith("feed("));
            }
        }
        due.isTrue("README has an example", lines > 20);
        for (Method method : UnevenWax.class.getDeclaredMethods()) {
            boolean open = java.lang.reflect.Modifier.isPublic(method.getModifiers());
            due.isTrue("README tells " + method.getName(), !open || readme.contains("`" + method.getName() + "`"));
        }
        due.close();
    }

    private static long ask(UnevenWax wax, String name, String[] told) throws ReflectiveOperationException {
        for (Method method : UnevenWax.class.getDeclaredMethods()) {
            if (method.getName().equals(name) && method.getParameterCount() == told.length) {
                Object[] arguments = new Object[told.length];
                for (int i = 0; i < told.length; i++) {
                    arguments[i] = argument(method.getParameterTypes()[i], told[i]);
                }
                return ((Number) method.invoke(wax, arguments)).longValue();
            }
        }
        throw new IllegalStateException("the class has no " + name + " with so many arguments");
    }

    /** A truth value, or a number that may be told as a product. */
    private static Object argument(Class<?> type, String told) {
        if (type == boolean.class) {
            return Boolean.valueOf(told);
        }
        long product = 1;
        for (String factor : told.split(" \\* ")) {
            product *= Long.parseLong(factor);
        }
        if (type == long.class) {
            return product;
        }
        return (int) product;
    }
}
