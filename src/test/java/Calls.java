import java.nio.charset.StandardCharsets;

/** What the tests share: an object under test, fed with texts, and a count of wrong answers. */
final class Calls {
    interface Call {
        long answer();
    }

    interface Question {
        boolean answer();
    }

    private static int wrong = 0;
    final StrictProofs x = new StrictProofs();

    /** Puts a text on the tape, whole feeds first, the spaces behind it cut off again. */
    Calls tape(String text) {
        byte[] bytes = text.getBytes(StandardCharsets.ISO_8859_1);
        int size = 0;
        for (int from = 0; from < bytes.length; from += 20) {
            int[] n = new int[5];
            for (int i = 0; i < 20; i++) {
                int b = from + i < bytes.length ? bytes[from + i] & 255 : ' ';
                n[i / 4] = n[i / 4] << 8 | b;
            }
            size = x.feed(n[0], n[1], n[2], n[3], n[4]);
        }
        x.cut(bytes.length - (bytes.length + 19) / 20 * 20 + size);
        return this;
    }

    static Calls of(String text) {
        Calls calls = new Calls().tape(text);
        if (calls.x.read() <= 0) {
            tell("the text has a fault at " + calls.x.place() + ": " + text);
        }
        return calls;
    }

    /** A text is read by a new object: its answer, and where the fault is. */
    static void dueOfText(int answer, int place, String text) {
        Calls c = new Calls().tape(text);
        due(answer, c.x::read);
        due(place, c.x::place);
    }

    static void dueRead(int functions, String text) {
        dueOfText(functions, -1, text);
    }

    /** The text has | ahead of the token with the fault. */
    static void dueFault(int number, String text) {
        int at = text.indexOf('|');
        dueOfText(-number, at, text.substring(0, at) + text.substring(at + 1));
    }

    /** Inputs as a text: a number, u for UNDEFINED, p for a pair. */
    Calls inputs(String inputs) {
        for (String one : inputs.trim().split(" +")) {
            if (one.equals("u")) {
                x.input(1, 0);
            } else if (one.equals("p")) {
                x.input(2, 0);
            } else if (!one.isEmpty()) {
                x.input(0, Integer.parseInt(one));
            }
        }
        return this;
    }

    /** A run, then its told(0) to told(5), as one text. */
    String ran(String inputs, int f, int d, int steps) {
        inputs(inputs);
        StringBuilder all = new StringBuilder().append(x.run(f, d, steps)).append(':');
        for (int what = 0; what < 6; what++) {
            all.append(' ').append(x.told(what));
        }
        return all.toString();
    }

    static void due(long want, Call call) {
        String got = answerOf(call);
        if (!got.equals(Long.toString(want))) {
            tell("answered " + got + ", due is " + want);
        }
    }

    static void dueYes(boolean want, Question question) {
        due(want ? 1 : 0, () -> question.answer() ? 1 : 0);
    }

    static void dueText(String want, String got) {
        if (!got.equals(want)) {
            tell("answered " + got + ", due is " + want);
        }
    }

    static void dueState(Call call) {
        dueText("throws.IllegalStateException", answerOf(call));
    }

    static void dueArgument(Call call) {
        dueText("throws.IllegalArgumentException", answerOf(call));
    }

    static void dueIndex(Call call) {
        dueText("throws.IndexOutOfBoundsException", answerOf(call));
    }

    /** The exact class is told: what the machine throws by itself is of a class below. */
    static String answerOf(Call call) {
        try {
            return Long.toString(call.answer());
        } catch (RuntimeException e) {
            return "throws." + e.getClass().getSimpleName();
        }
    }

    static void tell(String what) {
        wrong++;
        StringBuilder lines = new StringBuilder();
        for (StackTraceElement e : new Throwable().getStackTrace()) {
            if (e.getFileName() != null && e.getFileName().endsWith("Test.java")) {
                lines.append(' ').append(e.getFileName()).append(':').append(e.getLineNumber());
            }
        }
        System.out.println(what + " (" + lines.toString().trim() + ")");
    }

    static void end() {
        if (wrong > 0) {
            System.out.println(wrong + " wrong");
            System.exit(1);
        }
    }
}
