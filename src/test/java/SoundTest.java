import java.util.ArrayList;
import java.util.List;
import java.util.Random;

/**
 * Many made-up programs, the same ones each time: what the rows say of a function is held against its runs,
 * and runs are held against runs without the arguments that were not needed.
 */
public final class SoundTest {
    private static final String[] TYPES = {"num", "(num,num)", "(num,(num,num))", "((num,num),num)", "((num,num),(num,num))"};
    private static final int[] DEMANDS = {2, 5, 11, 11, 26};
    private static final int[] FIRST = {0, 0, 0, 1, 1};
    private static final int[] SECOND = {0, 0, 1, 0, 1};

    private final Random random;
    private final List<int[]> params = new ArrayList<>();
    private final List<Integer> answers = new ArrayList<>();
    private int names;

    private SoundTest(long seed) {
        random = new Random(seed);
    }

    public static void main(String[] args) {
        int used = 0;
        for (long seed = 1; seed <= 1500; seed++) {
            used += new SoundTest(seed).hold(seed);
        }
        if (used < 2000) {
            Calls.tell("too few runs ended by 1: " + used);
        }
        Calls.end();
    }

    private int hold(long seed) {
        String text = program();
        if (text.length() > 4000) {
            return 0;
        }
        // four runs and the longest text stay under the 512 calls that an object is promised for
        int done = 0;
        for (int n = 0; n < 3; n++) {
            done += holdRuns(seed, text, 4);
        }
        return done;
    }

    private int holdRuns(long seed, String text, int runs) {
        Calls c = new Calls().tape(text);
        int functions = c.x.read();
        if (functions == -6) {
            return 0;
        }
        if (functions != params.size()) {
            Calls.tell("seed " + seed + ": " + functions + " at " + c.x.place() + " of " + text);
            return 0;
        }
        c.x.rounds();
        Calls.due(-1, c.x::check);
        int done = 0;
        for (int n = 0; n < runs; n++) {
            done += holdRun(c, text);
        }
        return done;
    }

    private int holdRun(Calls c, String text) {
        int f = random.nextInt(params.size());
        int d = 1 + random.nextInt(DEMANDS[answers.get(f)] - 1);
        int[] types = params.get(f);
        String[] inputs = new String[types.length];
        boolean mayEnd = !c.x.dead(f, d);
        for (int p = 0; p < types.length; p++) {
            StringBuilder one = new StringBuilder();
            mayEnd = give(types[p], c.x.asks(f, d, p), one) && mayEnd;
            inputs[p] = one.toString();
        }
        String ran = c.ran(String.join(" ", inputs), f, d, 20000);
        if (!ran.startsWith("1:")) {
            return 0;
        }
        if (!mayEnd) {
            Calls.tell("function " + f + " by " + d + " needs not what its row has, of " + String.join(" ", inputs) + ": " + text);
        }
        for (int p = 0; p < types.length; p++) {
            if (!c.x.needed(p)) {
                inputs[p] = "u";
            }
        }
        Calls.dueText(ran, c.ran(String.join(" ", inputs), f, d, 20000));
        return 1;
    }

    /** Adds inputs for a type: whether all that is asked of it is there. */
    private boolean give(int type, int asked, StringBuilder to) {
        if (random.nextInt(6) == 0) {
            to.append("u ");
            return asked == 0;
        }
        if (type == 0) {
            to.append(random.nextInt(7) - 1).append(' ');
            return true;
        }
        to.append("p ");
        int n = DEMANDS[SECOND[type]];
        boolean first = give(FIRST[type], asked == 0 ? 0 : (asked - 1) / n, to);
        return give(SECOND[type], asked == 0 ? 0 : (asked - 1) % n, to) && first;
    }

    private int someType() {
        int r = random.nextInt(12);
        return r < 6 ? 0 : r < 9 ? 1 : r - 7;
    }

    private String program() {
        int count = 1 + random.nextInt(4);
        for (int f = 0; f < count; f++) {
            int[] types = new int[random.nextInt(4)];
            for (int p = 0; p < types.length; p++) {
                types[p] = someType();
            }
            params.add(types);
            answers.add(someType());
        }
        StringBuilder all = new StringBuilder();
        for (int f = 0; f < count; f++) {
            List<String> scope = new ArrayList<>();
            List<Integer> types = new ArrayList<>();
            all.append("f").append(f).append("(");
            for (int p = 0; p < params.get(f).length; p++) {
                int type = params.get(f)[p];
                all.append(p == 0 ? "" : ",").append("p").append(p).append(":").append(TYPES[type]);
                scope.add("p" + p);
                types.add(type);
            }
            names = scope.size();
            all.append("):").append(TYPES[answers.get(f)]).append("=");
            all.append(e(answers.get(f), 2 + random.nextInt(4), scope, types)).append(";\n");
        }
        return all.toString();
    }

    private String e(int type, int depth, List<String> scope, List<Integer> types) {
        int r = random.nextInt(10);
        if (depth > 0 && r < 2 && names < 16) {
            int inner = someType();
            String first = e(inner, depth - 1, scope, types);
            return "let " + with(scope, types, inner) + "=" + first + " in " + without(type, depth, scope, types, 1);
        }
        if (depth > 0 && r < 4 && names < 15) {
            int pair = 1 + random.nextInt(4);
            String first = e(pair, depth - 1, scope, types);
            return "case " + first + " of (" + with(scope, types, FIRST[pair]) + "," + with(scope, types, SECOND[pair]) + ") in "
                    + without(type, depth, scope, types, 2);
        }
        if (depth > 0 && r < 6) {
            return "if " + e(0, depth - 1, scope, types) + " then " + e(type, depth - 1, scope, types)
                    + " else " + e(type, depth - 1, scope, types);
        }
        if (depth > 0 && type == 0 && r < 9) {
            String[] signs = {"+", "-", "*", "<", "=="};
            return atom(0, depth - 1, scope, types) + signs[random.nextInt(5)] + atom(0, depth - 1, scope, types);
        }
        return atom(type, depth, scope, types);
    }

    private String with(List<String> scope, List<Integer> types, int type) {
        String name = "n" + names;
        names++;
        scope.add(name);
        types.add(type);
        return name;
    }

    private String without(int type, int depth, List<String> scope, List<Integer> types, int count) {
        String last = e(type, depth - 1, scope, types);
        for (int n = 0; n < count; n++) {
            scope.remove(scope.size() - 1);
            types.remove(types.size() - 1);
        }
        return last;
    }

    private String atom(int type, int depth, List<String> scope, List<Integer> types) {
        int r = random.nextInt(20);
        if (r < 10 && !scope.isEmpty()) {
            int from = random.nextInt(scope.size());
            for (int n = 0; n < scope.size(); n++) {
                int at = (from + n) % scope.size();
                if (types.get(at) == type) {
                    return scope.get(at);
                }
            }
        }
        if (r < 15 && depth > 0) {
            int f = random.nextInt(params.size());
            if (answers.get(f) == type) {
                List<String> arguments = new ArrayList<>();
                for (int p : params.get(f)) {
                    arguments.add(e(p, depth - 1, scope, types));
                }
                return "f" + f + "(" + String.join(",", arguments) + ")";
            }
        }
        if (r == 19) {
            return "fail " + TYPES[type];
        }
        if (type == 0) {
            return Integer.toString(random.nextInt(4));
        }
        return "(" + e(FIRST[type], depth - 1, scope, types) + "," + e(SECOND[type], depth - 1, scope, types) + ")";
    }
}
