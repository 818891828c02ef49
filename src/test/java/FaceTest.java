import java.lang.reflect.Constructor;
import java.lang.reflect.Field;
import java.lang.reflect.Method;
import java.lang.reflect.Modifier;
import java.util.ArrayList;
import java.util.List;
import java.util.TreeSet;

/** "The public face": each constant, constructor and method with its types, and nothing beside them. */
public final class FaceTest {
    private static final Due due = new Due("FaceTest");
    /** Of each call its answer's type and its arguments' types, i for int, b for boolean, l for long. */
    private static final String[] FACE = {"i feed iiiii", "i cellar i", "i plan ii", "i fault i", "i candle ii", "i length ii", "i meet i",
        "i halves i", "i piece iib", "i run ii", "i bell ii", "i ends ii", "i rest iii", "i flames iii", "i idle i", "i vain ii", "i spare ii",
        "i would iiii", "i off iii", "i night iii", "i chime ii", "i days iii", "i can ibi", "i time ibi", "i between ibi", "i least ibi",
        "i fewest ibi", "i burnt ibi", "i given ibii", "i lacks ibii", "i together ibi", "i leastFor ib", "i nearest ibi", "i along ii",
        "i alongs ii", "i serves iii", "i fittest ii", "i log i", "i nearly ii", "i missed iii", "i stolen ii", "i numbers iii",
        "l write iil", "i copy ii", "i image i", "i restore i", "i count i"};

    public static void main(String[] args) {
        methods();
        constants();
        constructors();
        due.close();
    }

    private static void methods() {
        TreeSet<String> told = new TreeSet<>(List.of(FACE));
        TreeSet<String> found = new TreeSet<>();
        for (Method method : UnevenWax.class.getDeclaredMethods()) {
            if (Modifier.isPublic(method.getModifiers())) {
                due.is(method.getName() + " is public alone", method.getModifiers(), Modifier.PUBLIC);
                due.is(method.getName() + " throws nothing", method.getExceptionTypes().length, 0);
                found.add(letters(method.getReturnType()) + " " + method.getName() + " " + letters(method.getParameterTypes()));
            }
        }
        for (String each : told) {
            due.isTrue("the class has " + each, found.contains(each));
        }
        for (String each : found) {
            due.isTrue("the document has " + each, told.contains(each));
        }
    }

    private static String letters(Class<?>... types) {
        StringBuilder letters = new StringBuilder();
        for (Class<?> type : types) {
            letters.append(type.isPrimitive() ? type.getName().charAt(0) : '?');
        }
        return letters.toString();
    }

    private static void constants() {
        List<String> open = new ArrayList<>();
        for (Field field : UnevenWax.class.getFields()) {
            open.add(Modifier.toString(field.getModifiers()) + " " + field.getType() + " " + field.getName());
        }
        due.isTrue("NONE alone: " + open, open.equals(List.of("public static final int NONE")));
        due.is("NONE", UnevenWax.NONE, -1);
    }

    private static void constructors() {
        Constructor<?>[] all = UnevenWax.class.getDeclaredConstructors();
        due.is("one constructor", all.length, 1);
        due.is("it is public", all[0].getModifiers(), Modifier.PUBLIC);
        due.is("it takes nothing", all[0].getParameterCount(), 0);
    }
}
