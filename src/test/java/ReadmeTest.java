import java.io.IOException;
import java.lang.reflect.InvocationTargetException;
import java.lang.reflect.Method;
import java.lang.reflect.Modifier;
import java.nio.charset.StandardCharsets;
import java.nio.file.Files;
import java.nio.file.Path;
import java.util.Arrays;
import java.util.Set;
import java.util.TreeSet;
import java.util.regex.Matcher;
import java.util.regex.Pattern;

/** The examples of README.md: each call that it shows gives the answer that it names behind the call. */
public final class ReadmeTest {
    private static final String MADE = "StrictProofs x = new StrictProofs();";
    private static final Pattern CALL = Pattern.compile("x\\.(\\w+)\\(([^)]*)\\);\\s+// (throws \\w+|-?\\w+)(?:: (.*))?");

    private final Set<String> unseen = new TreeSet<>();
    private StrictProofs x = null;

    /** README.md is looked for where the test is run, or where its one argument says. */
    public static void main(String[] args) throws IOException {
        new ReadmeTest().hold(Files.readString(Path.of(args.length > 0 ? args[0] : "README.md")));
        Calls.end();
    }

    private void hold(String readme) {
        for (Method method : StrictProofs.class.getDeclaredMethods()) {
            if (Modifier.isPublic(method.getModifiers())) {
                unseen.add(method.getName());
            }
        }
        boolean isExample = false;
        for (String line : readme.split("\n")) {
            if (line.startsWith("```")) {
                isExample = line.equals("```java");
            } else if (isExample) {
                holdLine(line);
            }
        }
        Calls.dueText("[]", unseen.toString());
    }

    private void holdLine(String line) {
        Matcher call = CALL.matcher(line);
        if (line.equals(MADE)) {
            x = new StrictProofs();
        } else if (x == null || !call.matches()) {
            Calls.tell("no call with an answer: " + line);
        } else {
            int[] numbers = numbers(call.group(2));
            String got = answer(call.group(1), numbers);
            if (!got.equals(call.group(3))) {
                Calls.tell("answered " + got + ": " + line);
            }
            if (call.group(1).equals("feed")) {
                Calls.dueText(call.group(4), "\"" + bytes(numbers) + "\"");
            }
            unseen.remove(call.group(1));
        }
    }

    private static int[] numbers(String list) {
        return Arrays.stream(list.split(", *")).filter(n -> !n.isEmpty()).mapToInt(Integer::decode).toArray();
    }

    private static String bytes(int[] numbers) {
        byte[] all = new byte[4 * numbers.length];
        for (int i = 0; i < all.length; i++) {
            all[i] = (byte) (numbers[i / 4] >> 24 - i % 4 * 8);
        }
        return new String(all, StandardCharsets.ISO_8859_1);
    }

    private String answer(String name, int[] numbers) {
        Class<?>[] types = new Class<?>[numbers.length];
        Arrays.fill(types, int.class);
        try {
            Object[] arguments = Arrays.stream(numbers).boxed().toArray();
            return String.valueOf(StrictProofs.class.getMethod(name, types).invoke(x, arguments));
        } catch (InvocationTargetException e) {
            return "throws " + e.getCause().getClass().getSimpleName();
        } catch (ReflectiveOperationException e) {
            return "no such call";
        }
    }
}
