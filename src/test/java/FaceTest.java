import java.lang.reflect.Constructor;
import java.lang.reflect.Field;
import java.lang.reflect.Method;
import java.lang.reflect.Modifier;
import java.util.Set;
import java.util.TreeSet;

/** The class has the document's face and nothing more that others can see. */
public final class FaceTest {
    private static final String[] FACE = {
        "int NONE",
        "StrictProofs()",
        "int feed(int,int,int,int,int) IllegalStateException",
        "int cut(int) IllegalArgumentException",
        "int read()",
        "int place()",
        "int function(int,int) IndexOutOfBoundsException",
        "int rounds() IllegalStateException",
        "boolean dead(int,int) IllegalStateException IndexOutOfBoundsException",
        "int asks(int,int,int) IllegalStateException IndexOutOfBoundsException",
        "boolean strict(int,int) IllegalStateException IndexOutOfBoundsException",
        "int plant(int,int,int,int) IllegalStateException IndexOutOfBoundsException IllegalArgumentException",
        "int check() IllegalStateException",
        "int input(int,int) IllegalArgumentException IllegalStateException",
        "int run(int,int,int) IllegalStateException IndexOutOfBoundsException IllegalArgumentException",
        "int told(int) IndexOutOfBoundsException",
        "int result(int) IndexOutOfBoundsException",
        "boolean needed(int) IndexOutOfBoundsException",
    };

    public static void main(String[] args) {
        Calls.due(-1, () -> StrictProofs.NONE);
        Calls.dueText("public final", Modifier.toString(StrictProofs.class.getModifiers()));
        Calls.dueText(new TreeSet<>(Set.of(FACE)).toString(), seen().toString());
        Calls.end();
    }

    private static Set<String> seen() {
        Set<String> seen = new TreeSet<>();
        for (Field f : StrictProofs.class.getDeclaredFields()) {
            if (!Modifier.isPrivate(f.getModifiers())) {
                seen.add(f.getType().getSimpleName() + " " + f.getName());
            }
        }
        for (Constructor<?> c : StrictProofs.class.getDeclaredConstructors()) {
            seen.add("StrictProofs(" + names(c.getParameterTypes(), ",") + ")" + names(c.getExceptionTypes(), " "));
        }
        for (Method m : StrictProofs.class.getDeclaredMethods()) {
            if (!Modifier.isPrivate(m.getModifiers())) {
                String thrown = names(m.getExceptionTypes(), " ");
                seen.add(m.getReturnType().getSimpleName() + " " + m.getName() + "("
                        + names(m.getParameterTypes(), ",") + ")" + (thrown.isEmpty() ? "" : " " + thrown));
            }
        }
        return seen;
    }

    private static String names(Class<?>[] classes, String between) {
        StringBuilder all = new StringBuilder();
        for (Class<?> c : classes) {
            all.append(all.length() == 0 ? "" : between).append(c.getSimpleName());
        }
        return all.toString();
    }
}
