import java.util.ArrayList;
import java.util.List;
import java.util.Random;

/** Makes up texts of programs without a FAULT (but for texts that are too large), the same ones for the same numbers. */
final class Programs {
    static final int[] DEMANDS = {2, 5, 11, 11, 26};
    static final int[] FIRST = {0, 0, 0, 1, 1};
    static final int[] SECOND = {0, 0, 1, 0, 1};
    private static final String[] TYPES =
            {"num", "(num,num)", "(num,(num,num))", "((num,num),num)", "((num,num),(num,num))"};
    private static final String[] SIGNS = {"+", "-", "*", "<", "=="};
    // FUNCTIONS of two calls of themselves, of which a run soon has too many; @ is the NAME.
    private static final String[] TWICE = {
        "@(p0:num):num=if p0<1 then 1 else @(p0-1)+@(p0-1);",
        "@(p0:num):(num,num)=if p0<1 then (0,1) else case @(p0-1) of (a,b) in case @(p0-1) of (c,d) in (a+c,(b+d)*2);",
        "@(p0:num):num=if p0<1 then 1 else let a=p0*2 in let b=let c=a in c in (@(p0-1)+@(p0-1))-b;"
    };
    private static final int[] TWICE_ANSWERS = {0, 1, 0};

    final List<int[]> params = new ArrayList<>();
    final List<Integer> answers = new ArrayList<>();
    final String text;
    private final Random random;
    private final boolean hiding;
    private final List<String> scope = new ArrayList<>();
    private final List<Integer> types = new ArrayList<>();
    private int names;

    /** With hiding, there are so few NAMES that inner ones hide outer ones. */
    Programs(Random random, int mostFunctions, boolean hiding) {
        this.random = random;
        this.hiding = hiding;
        int count = 1 + random.nextInt(mostFunctions);
        for (int f = 0; f < count; f++) {
            int[] own = new int[random.nextInt(5)];
            for (int p = 0; p < own.length; p++) {
                own[p] = p == 0 && random.nextBoolean() ? 0 : someType();
            }
            params.add(own);
            answers.add(someType());
        }
        int twice = random.nextInt(2 * TWICE.length);
        if (twice < TWICE.length) {
            params.add(new int[] {0});
            answers.add(TWICE_ANSWERS[twice]);
        }
        StringBuilder all = new StringBuilder();
        for (int f = 0; f < count; f++) {
            all.append(function(f));
        }
        text = all.append(twice < TWICE.length ? TWICE[twice].replace("@", "f" + count) : "").toString();
    }

    private int someType() {
        int r = random.nextInt(12);
        return r < 6 ? 0 : r < 9 ? 1 : r - 7;
    }

    private String function(int f) {
        StringBuilder all = new StringBuilder();
        names = 0;
        all.append("f").append(f).append("(");
        for (int p = 0; p < params.get(f).length; p++) {
            int type = params.get(f)[p];
            scope.add("p" + p);
            types.add(type);
            names++;
            all.append(p == 0 ? "" : ",").append("p").append(p).append(":").append(TYPES[type]);
        }
        all.append("):").append(TYPES[answers.get(f)]).append("=");
        if (params.get(f).length > 0 && params.get(f)[0] == 0 && random.nextBoolean()) {
            all.append("if p0<1 then ").append(e(answers.get(f), 2)).append(" else ");
        }
        all.append(e(answers.get(f), 2 + random.nextInt(4))).append(";\n");
        scope.clear();
        types.clear();
        return all.toString();
    }

    private String e(int type, int depth) {
        int r = random.nextInt(10);
        if (depth > 0 && r < 2 && names < 16) {
            names++;
            int inner = someType();
            String first = e(inner, depth - 1);
            return "let " + with(inner, "") + "=" + first + " in " + without(type, depth, 1);
        }
        if (depth > 0 && r < 4 && names < 15) {
            names += 2;
            int pair = 1 + random.nextInt(4);
            String first = e(pair, depth - 1);
            String one = with(FIRST[pair], "");
            return "case " + first + " of (" + one + "," + with(SECOND[pair], one) + ") in " + without(type, depth, 2);
        }
        if (depth > 0 && r < 6) {
            return "if " + e(0, depth - 1) + " then " + e(type, depth - 1) + " else " + e(type, depth - 1);
        }
        if (depth > 0 && type == 0 && r < 9) {
            return atom(0, depth - 1) + SIGNS[random.nextInt(5)] + atom(0, depth - 1);
        }
        return atom(type, depth);
    }

    private String with(int type, String other) {
        String name = "n" + scope.size();
        if (hiding && random.nextInt(3) > 0) {
            name = (random.nextBoolean() ? "p" : "n") + random.nextInt(4);
        }
        if (name.equals(other)) {
            name = "other";
        }
        scope.add(name);
        types.add(type);
        return name;
    }

    private String without(int type, int depth, int count) {
        String last = e(type, depth - 1);
        for (int n = 0; n < count; n++) {
            scope.remove(scope.size() - 1);
            types.remove(types.size() - 1);
        }
        return last;
    }

    private String atom(int type, int depth) {
        int r = random.nextInt(20);
        String name = nameOf(type);
        if (r < 10 && name != null) {
            return r == 0 ? "(" + name + ")" : name;
        }
        if (r < 15 && depth > 0) {
            int f = random.nextInt(params.size());
            if (answers.get(f) == type) {
                return call(f, depth);
            }
        }
        if (r == 19) {
            return "fail " + TYPES[type];
        }
        if (type == 0) {
            return r == 18 && depth > 0 ? "(" + e(0, depth - 1) + ")" : Integer.toString(random.nextInt(4));
        }
        return "(" + e(FIRST[type], depth - 1) + "," + e(SECOND[type], depth - 1) + ")";
    }

    private String nameOf(int type) {
        int from = scope.isEmpty() ? 0 : random.nextInt(scope.size());
        for (int n = 0; n < scope.size(); n++) {
            int at = (from + n) % scope.size();
            if (types.get(at) == type && scope.lastIndexOf(scope.get(at)) == at) {
                return scope.get(at);
            }
        }
        return null;
    }

    private String call(int f, int depth) {
        List<String> arguments = new ArrayList<>();
        for (int type : params.get(f)) {
            String name = nameOf(0);
            boolean less = type == 0 && name != null && random.nextBoolean();
            arguments.add(less ? name + "-1" : e(type, depth - 1));
        }
        return "f" + f + "(" + String.join(",", arguments) + ")";
    }
}
