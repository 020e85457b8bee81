import java.util.Random;

/**
 * Many made-up programs, the same ones each time: what the rows say of a function is held against its runs,
 * and runs are held against runs without the arguments that were not needed.
 */
public final class SoundTest {
    private final Random random;
    private final Programs programs;

    private SoundTest(long seed) {
        random = new Random(seed);
        programs = new Programs(random, 4, false);
    }

    public static void main(String[] args) {
        int used = 0;
        for (long seed = 1; seed <= 1500; seed++) {
            used += new SoundTest(seed).hold(seed);
        }
        if (used < 2000) {
            Calls.tell("too few runs ended by 1: " + used);
        }
        Calls.end();
    }

    private int hold(long seed) {
        if (programs.text.length() > 4000) {
            return 0;
        }
        // three runs and the longest text stay under the 512 calls that an object is promised for
        int done = 0;
        for (int n = 0; n < 4; n++) {
            done += holdRuns(seed, programs.text, 3);
        }
        return done;
    }

    private int holdRuns(long seed, String text, int runs) {
        Calls c = new Calls().tape(text);
        int functions = c.x.read();
        if (functions == -6) {
            return 0;
        }
        if (functions != programs.params.size()) {
            Calls.tell("seed " + seed + ": " + functions + " at " + c.x.place() + " of " + text);
            return 0;
        }
        c.x.rounds();
        Calls.due(-1, c.x::check);
        int done = 0;
        for (int n = 0; n < runs; n++) {
            done += holdRun(c, text);
        }
        return done;
    }

    private int holdRun(Calls c, String text) {
        int f = random.nextInt(programs.params.size());
        int d = 1 + random.nextInt(Programs.DEMANDS[programs.answers.get(f)] - 1);
        int[] types = programs.params.get(f);
        String[] inputs = new String[types.length];
        boolean mayEnd = !c.x.dead(f, d);
        for (int p = 0; p < types.length; p++) {
            StringBuilder one = new StringBuilder();
            mayEnd = give(types[p], c.x.asks(f, d, p), one) && mayEnd;
            inputs[p] = one.toString();
        }
        String ran = c.ran(String.join(" ", inputs), f, d, 20000);
        if (!ran.startsWith("1:")) {
            return 0;
        }
        if (!mayEnd) {
            Calls.tell("function " + f + " by " + d + " needs not what its row has, of " + String.join(" ", inputs) + ": " + text);
        }
        for (int p = 0; p < types.length; p++) {
            if (!c.x.needed(p)) {
                inputs[p] = "u";
            }
        }
        Calls.dueText(ran, c.ran(String.join(" ", inputs), f, d, 20000));
        return 1;
    }

    /** Adds inputs for a type: whether all that is asked of it is there. */
    private boolean give(int type, int asked, StringBuilder to) {
        if (random.nextInt(6) == 0) {
            to.append("u ");
            return asked == 0;
        }
        if (type == 0) {
            to.append(random.nextInt(7) - 1).append(' ');
            return true;
        }
        to.append("p ");
        int n = Programs.DEMANDS[Programs.SECOND[type]];
        boolean first = give(Programs.FIRST[type], asked == 0 ? 0 : (asked - 1) / n, to);
        return give(Programs.SECOND[type], asked == 0 ? 0 : (asked - 1) % n, to) && first;
    }
}
