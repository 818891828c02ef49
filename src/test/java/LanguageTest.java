import java.io.IOException;
import java.lang.reflect.Constructor;
import java.lang.reflect.Field;
import java.lang.reflect.Method;
import java.lang.reflect.Modifier;
import java.nio.file.Files;
import java.nio.file.Path;
import java.util.Set;
import java.util.TreeSet;
import java.util.regex.Matcher;
import java.util.regex.Pattern;

/** Rules of ../shared/LANGUAGE.md that can be seen in the source's words and in the class's face. */
public final class LanguageTest {
    private static final Due due = new Due("LanguageTest");

    public static void main(String[] args) throws IOException {
        String source = Files.readString(Path.of("src/main/java/UnevenWax.java"));
        String code = source.replaceAll("(?s)/\\*.*?\\*/", " ").replaceAll("//[^\n]*", " ").replaceAll("\"[^\"\n]*\"", "\"\"");
        words(source, code);
        face();
        names();
        sizes();
        methodLengths(code);
        due.close();
    }

    private static void words(String source, String code) {
        String[] never = {"throw", "throws", "try", "catch", "synchronized", "assert", "import", "package", "protected",
            "hashCode", "toString", "Exact", "Object", "System\\.out", "instanceof", "float", "double", "new String"};
        for (String word : never) {
            due.isTrue("no " + word, !Pattern.compile("\\b" + word + "\\b").matcher(code).find());
        }
        due.isTrue("no lambda", !code.contains("->"));
        due.isTrue("no method reference", !code.contains("::"));
        due.isTrue("no joining of texts by +", !Pattern.compile("\"\\s*\\+|\\+\\s*\"").matcher(code).find());
        for (int i = 0; i < source.length(); i++) {
            if (source.charAt(i) > 126) {
                due.is("a sign beyond 126 at " + i, source.charAt(i), 0);
            }
        }
        Matcher library = Pattern.compile("\\b(Math|Integer|Long|System|Arrays)\\.(\\w+)").matcher(code);
        Set<String> allowed = Set.of("max", "min", "bitCount", "arraycopy");
        while (library.find()) {
            due.isTrue(library.group() + " is in the library", allowed.contains(library.group(2)));
        }
    }

    private static void face() {
        due.isTrue("public and final", UnevenWax.class.getModifiers() == (Modifier.PUBLIC | Modifier.FINAL));
        int methods = 0;
        for (Method method : UnevenWax.class.getDeclaredMethods()) {
            int how = method.getModifiers();
            methods += Modifier.isPublic(how) ? 1 : 0;
            due.isTrue(method.getName() + " is public or private", Modifier.isPublic(how) || Modifier.isPrivate(how));
        }
        due.is("public methods", methods, 47);
        for (Constructor<?> made : UnevenWax.class.getDeclaredConstructors()) {
            due.isTrue("the one constructor", Modifier.isPublic(made.getModifiers()) && made.getParameterCount() == 0);
        }
        for (Field field : UnevenWax.class.getDeclaredFields()) {
            int how = field.getModifiers();
            due.isTrue(field.getName(), Modifier.isPrivate(how) || field.getName().equals("NONE"));
            due.isTrue(field.getName() + " is final if static", !Modifier.isStatic(how) || Modifier.isFinal(how));
        }
        for (Class<?> inside : UnevenWax.class.getDeclaredClasses()) {
            due.isTrue(inside.getSimpleName() + " is static", Modifier.isStatic(inside.getModifiers()));
        }
    }

    private static void names() {
        Set<String> open = new TreeSet<>();
        for (Method method : UnevenWax.class.getDeclaredMethods()) {
            if (Modifier.isPublic(method.getModifiers())) {
                open.add(method.getName());
            }
        }
        due.is("names of public methods", open.size(), 47);
        for (Method method : UnevenWax.class.getDeclaredMethods()) {
            due.isTrue(method.getName() + " is no second name", Modifier.isPublic(method.getModifiers()) || !open.contains(method.getName()));
        }
        for (Class<?> inside : UnevenWax.class.getDeclaredClasses()) {
            for (Method method : inside.getDeclaredMethods()) {
                due.isTrue(inside.getSimpleName() + "." + method.getName() + " is no public name", !open.contains(method.getName()));
                due.isTrue(method.getName() + " takes at most seven", method.getParameterCount() <= 7);
            }
        }
    }

    private static void sizes() {
        Class<?>[] inside = UnevenWax.class.getDeclaredClasses();
        due.isTrue("at most twelve classes", inside.length + 1 <= 12);
        due.isTrue("fields of the class", fields(UnevenWax.class) <= 20);
        for (Class<?> one : inside) {
            due.isTrue("fields of " + one.getSimpleName(), fields(one) <= 20);
        }
    }

    private static int fields(Class<?> one) {
        int sum = 0;
        for (Field field : one.getDeclaredFields()) {
            sum += Modifier.isStatic(field.getModifiers()) ? 0 : 1;
        }
        return sum;
    }

    /** A method is from its opening line to the brace that stands as far left as it. */
    private static void methodLengths(String code) {
        String[] lines = code.split("\n");
        Pattern opening = Pattern.compile("^( +)[\\w\\[\\] ]+\\(.*\\) \\{$");
        for (int i = 0; i < lines.length; i++) {
            Matcher matcher = opening.matcher(lines[i]);
            if (!matcher.matches() || lines[i].matches(" +(if|for|while|switch|else).*")) {
                continue;
            }
            int end = i;
            while (end < lines.length && !lines[end].equals(matcher.group(1) + "}")) {
                end++;
            }
            due.isTrue(lines[i].trim() + " is short", end - i < 60);
        }
    }
}
