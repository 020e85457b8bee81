import java.util.ArrayList;
import java.util.Collections;
import java.util.List;

/** The boundaries of 3 RUNS and of promises 13 to 17: each run that just ends by 1, and the one beside it that does not. */
public final class RunBoundsTest {
    private static final String[] TYPES = {"num", "(num,num)", "(num,(num,num))", "((num,num),num)", "((num,num),(num,num))"};
    private static final int[] DEMANDS = {2, 5, 11, 11, 26};
    private static final int[] FIRST = {0, 0, 0, 1, 1};
    private static final int[] SECOND = {0, 0, 1, 0, 1};
    private static final int MIN = Integer.MIN_VALUE;
    private static final int MAX = Integer.MAX_VALUE;

    public static void main(String[] args) {
        numbersThatWrap();
        comparedNumbers();
        chosenByZero();
        stepsThatAreTold();
        mostSteps();
        everyStepOfARun();
        mostDepth();
        depthOfThings();
        stepsAheadOfDepth();
        mostCalls();
        mostPairs();
        mostThings();
        thingsOfArguments();
        thingsOfPairs();
        countedApart();
        stepsAheadOfCalls();
        answersByEachDemand();
        inputsThatAreNotThere();
        fewestAndMostInputs();
        inputsOneMoreOrFewer();
        whatIsTold();
        resultsOfEachType();
        resultsOfNoPart();
        resultsOfOtherEnds();
        runsBehindRuns();
        inputsBesideAllThatIsMade();
        neededParams();
        Calls.end();
    }

    private static void dueNumber(int want, String e, int x, int y) {
        Calls c = Calls.of("f(x:num,y:num):num=" + e + ";");
        c.x.input(0, x);
        c.x.input(0, y);
        Calls.due(1, () -> c.x.run(0, 1, 100));
        Calls.due(want, () -> c.x.result(0));
    }

    private static void numbersThatWrap() {
        dueNumber(MAX, "x", MAX, 0);
        dueNumber(MIN, "x", MIN, 0);
        dueNumber(MAX, "x+y", MAX - 1, 1);
        dueNumber(MIN, "x+y", MAX, 1);
        dueNumber(-2, "x+y", MAX, MAX);
        dueNumber(0, "x+y", MIN, MIN);
        dueNumber(MIN, "x-y", MIN + 1, 1);
        dueNumber(MAX, "x-y", MIN, 1);
        dueNumber(MIN, "x-y", 0, MIN);
        dueNumber(-1, "x-y", MAX, MIN);
        dueNumber(MIN, "x*y", MIN, -1);
        dueNumber(MIN, "x*y", 1 << 30, 2);
        dueNumber(MIN, "x*y", 1 << 30, -2);
        dueNumber(2147483646, "x*y", 1073741823, 2);
        dueNumber(0, "x*y", 65536, 65536);
        dueNumber(1, "x*y", MAX, MAX);
        dueNumber(-1, "x*y", 65536 + 1, 65536 - 1);
        // 999999999 squared is 232830643 times two to the 32nd and 808348673
        dueNumber(808348673, "999999999*999999999", 0, 0);
        dueNumber(MAX, "(999999999+999999999)+147483649", 0, 0);
        dueNumber(MIN, "(999999999+999999999)+147483650", 0, 0);
    }

    private static void comparedNumbers() {
        int[] numbers = {MIN, MIN + 1, -1, 0, 1, MAX - 1, MAX};
        for (int i = 0; i < numbers.length; i++) {
            for (int j = 0; j < numbers.length; j++) {
                dueNumber(i < j ? 1 : 0, "x<y", numbers[i], numbers[j]);
                dueNumber(i == j ? 1 : 0, "x==y", numbers[i], numbers[j]);
            }
        }
    }

    private static void chosenByZero() {
        for (int x : new int[] {MIN, -1, 1, MAX}) {
            dueNumber(5, "if x then 5 else 6", x, 0);
        }
        dueNumber(6, "if x then 5 else 6", 0, 0);
        dueNumber(6, "if x*y then 5 else 6", 65536, 65536);
        dueNumber(5, "if x*y then 5 else 6", 65536, 32768);
    }

    private static String sum(List<String> leaves) {
        int n = leaves.size();
        return n == 1 ? leaves.get(0) : "(" + sum(leaves.subList(0, n / 2)) + "+" + sum(leaves.subList(n / 2, n)) + ")";
    }

    private static String sumOf(int n, String leaf) {
        return sum(Collections.nCopies(n, leaf));
    }

    private static void stepsThatAreTold() {
        for (int steps : new int[] {0, 1, 19999, 20000}) {
            Calls c = Calls.of("f():num=7;");
            Calls.due(steps == 0 ? 3 : 1, () -> c.x.run(0, 1, steps));
            Calls.due(steps == 0 ? 0 : 1, () -> c.x.told(0));
        }
        for (int steps : new int[] {MIN, -1, 20001, MAX}) {
            Calls c = Calls.of("f():num=7;");
            Calls.dueArgument(() -> c.x.run(0, 1, steps));
            Calls.due(0, () -> c.x.told(0));
            Calls.dueIndex(() -> c.x.result(0));
        }
    }

    /** g's call is 100 STEPS, h's 1010, j's 84; with 26 signs that is 20000, and a call round j's is one more. */
    private static String twentyThousand(String last) {
        List<String> leaves = new ArrayList<>(Collections.nCopies(19, "h()"));
        leaves.addAll(Collections.nCopies(7, "g()"));
        leaves.add(last);
        return "f():num=" + sum(leaves) + ";g():num=" + sumOf(50, "1") + ";h():num=" + sumOf(10, "g()") + ";j():num="
                + sumOf(42, "1") + ";k():num=j();";
    }

    private static void mostSteps() {
        Calls c = Calls.of(twentyThousand("j()"));
        Calls.due(1, () -> c.x.run(0, 1, 20000));
        Calls.due(20000, () -> c.x.told(0));
        Calls.due(9892, () -> c.x.result(0));
        Calls.due(3, () -> c.x.run(0, 1, 19999));
        Calls.due(19999, () -> c.x.told(0));
        Calls.dueIndex(() -> c.x.result(0));
        Calls d = Calls.of(twentyThousand("k()"));
        Calls.due(3, () -> d.x.run(0, 1, 20000));
        Calls.due(20000, () -> d.x.told(0));
        Calls.dueIndex(() -> d.x.result(0));
    }

    /** A run of 13 STEPS, cut off behind each: STEPS, THINGS, PAIRS, CALLS, DEPTH, never NEEDED. */
    private static void everyStepOfARun() {
        String text = "f(x:num):num=let a=x+1 in case g(a,2) of (b,c) in if b then c*b else 3;g(x:num,y:num):(num,num)=(y,x);";
        String[] due = {
            "3: 0 0 0 0 0 0", "3: 1 1 0 0 1 1", "3: 2 1 0 0 2 1", "3: 3 2 0 1 3 2", "3: 4 2 1 1 4 2", "3: 5 2 1 1 4 2",
            "3: 6 2 1 1 4 1", "3: 7 2 1 1 5 1", "3: 8 2 1 1 5 1", "3: 9 2 1 1 5 0", "3: 10 2 1 1 6 0", "3: 11 2 1 1 7 0",
            "3: 12 2 1 1 7 0", "1: 13 2 1 1 7 0", "1: 13 2 1 1 7 0",
        };
        for (int steps = 0; steps < due.length; steps++) {
            Calls c = Calls.of(text);
            Calls.dueText(due[steps], c.ran("4", 0, 1, steps));
            if (due[steps].startsWith("1")) {
                Calls.due(10, () -> c.x.result(0));
            } else {
                Calls.dueIndex(() -> c.x.result(0));
            }
        }
    }

    /** An if and a call each time, and three more for the last if's NAME: 2 n + 4 DEPTHS. */
    private static final String DEEPER = "f(n:num):num=if n then f(n-1) else 7;g(n:num):num=f(n);";

    private static void dueDepth(int end, int depth, String text, int f, String inputs) {
        Calls c = Calls.of(text);
        Calls.due(end, () -> c.inputs(inputs).x.run(f, 1, 20000));
        Calls.due(depth, () -> c.x.told(4));
        if (end == 1) {
            Calls.due(7, () -> c.x.result(0));
        } else {
            Calls.dueIndex(() -> c.x.result(0));
        }
    }

    private static void mostDepth() {
        dueDepth(1, 148, DEEPER, 0, "72");
        dueDepth(1, 149, DEEPER, 1, "72");
        dueDepth(1, 150, DEEPER, 0, "73");
        dueDepth(4, 150, DEEPER, 1, "73");
        dueDepth(4, 150, DEEPER, 0, "74");
        dueDepth(4, 150, DEEPER, 0, "2000000000");
    }

    /** Each a is the one before it and a sign: 4 n + 2 DEPTHS. */
    private static void depthOfThings() {
        String text = "f(n:num,a:num):num=if n then f(n-1,a+1) else a;g(n:num,a:num):num=f(n,a);";
        dueDepth(1, 146, text, 0, "36 -29");
        dueDepth(1, 150, text, 0, "37 -30");
        dueDepth(4, 150, text, 1, "37 -30");
        dueDepth(4, 150, text, 0, "38 -31");
        // a THING that has its value is no DEPTH more
        dueDepth(1, 149, "f(n:num,a:num):num=if a then 0 else if n then f(n-1,a*1) else 7;", 0, "48 0");
        dueDepth(4, 150, "f(n:num,a:num):num=if a then 0 else if n then f(n-1,a*1) else 7;", 0, "49 0");
        // each part of an answer begins anew
        Calls c = Calls.of("h():(num,num)=(f(73),f(73));f(n:num):num=if n then f(n-1) else 7;");
        Calls.due(4, () -> c.x.run(0, 2, 20000));
        Calls d = Calls.of("h():(num,num)=(f(72),f(72));f(n:num):num=if n then f(n-1) else 7;");
        Calls.due(1, () -> d.x.run(0, 4, 20000));
        Calls.due(149, () -> d.x.told(4));
        Calls.due(7, () -> d.x.result(2));
    }

    private static void stepsAheadOfDepth() {
        String loop = "f(x:num):num=f(x+1);";
        Calls.dueText("3: 149 149 0 149 149 149", Calls.of(loop).ran("1", 0, 1, 149));
        Calls.dueText("3: 150 150 0 150 150 150", Calls.of(loop).ran("1", 0, 1, 150));
        Calls.dueText("4: 150 150 0 150 150 150", Calls.of(loop).ran("1", 0, 1, 151));
    }

    private static void dueRun(String want, String text) {
        Calls.dueText(want, Calls.of(text).ran("1", 0, 1, 20000));
    }

    /** 30 CALLS of 50 each. */
    private static void mostCalls() {
        String more = ";g():num=" + sumOf(49, "u()") + ";u():num=1;";
        dueRun("1: 4439 0 0 1500 14 0", "f(x:num):num=" + sumOf(30, "g()") + more);
        dueRun("5: 4441 0 0 1500 15 0", "f(x:num):num=" + sumOf(30, "g()") + "+u()" + more);
        // the CALL comes ahead of its THINGS
        dueRun("5: 4441 0 0 1500 15 0", "f(x:num):num=" + sumOf(30, "g()") + "+v(1,2)" + more + "v(a:num,b:num):num=1;");
        dueRun("1: 4291 0 0 1450 14 0", "f(x:num):num=" + sumOf(29, "g()") + more);
    }

    /** 30 times 10 CALLS of 5 PAIRS each. */
    private static void mostPairs() {
        String more = ";g(x:num):num=" + sumOf(10, "u(x)") + ";u(x:num):num=" + "case (x,x) of (a,b) in ".repeat(5) + "a;";
        dueRun("1: 3929 0 1500 330 17 0", "f(x:num):num=" + sumOf(30, "g(x)") + more);
        dueRun("5: 3932 0 1500 330 18 0", "f(x:num):num=" + sumOf(30, "g(x)") + "+(case (x,x) of (a,b) in a)" + more);
        // the PAIR comes ahead of its THINGS
        dueRun("5: 3932 0 1500 330 18 0", "f(x:num):num=" + sumOf(30, "g(x)") + "+(case (1,2) of (a,b) in a)" + more);
    }

    /** 1500 less j THINGS, by 109 CALLS and 1808 less j STEPS, then one sign more and what is to be looked at. */
    private static String things(int j, String extra) {
        List<String> leaves = new ArrayList<>(Collections.nCopies(9, "g()"));
        leaves.addAll(Collections.nCopies(9, "u()"));
        leaves.add("v()");
        return "f(x:num):num=" + sum(leaves) + "+" + extra + ";g():num=" + sumOf(10, "u()") + ";u():num="
                + "let a=1 in ".repeat(15) + "1;v():num=" + "let a=1 in ".repeat(15 - j) + "1;w(a:num,b:num):num=3;";
    }

    /** told(0) to told(3) and how the run ended; the DEPTH is not the question. */
    private static void dueThings(String want, String text) {
        String[] got = Calls.of(text).ran("1", 0, 1, 20000).split(" ");
        Calls.dueText(want, String.join(" ", got[0], got[1], got[2], got[3], got[4]));
    }

    private static void mostThings() {
        dueThings("1: 1810 1500 0 109", things(0, "3"));
        dueThings("1: 1809 1499 0 109", things(1, "3"));
        dueThings("1: 1810 1500 0 109", things(1, "(let a=1 in 3)"));
        dueThings("5: 1810 1500 0 109", things(0, "(let a=1 in 3)"));
        // a NAME alone is none
        dueThings("1: 1811 1500 0 109", things(0, "(let a=x in 3)"));
        dueThings("1: 1812 1500 0 109", things(0, "(let a=((x)) in let b=a in 3)"));
        dueThings("5: 1811 1500 0 109", things(0, "(let a=x in let b=a+0 in 3)"));
    }

    private static void thingsOfArguments() {
        dueThings("1: 1809 1500 0 110", things(2, "w(1,2)"));
        dueThings("5: 1809 1500 0 110", things(1, "w(1,2)"));
        dueThings("5: 1810 1500 0 110", things(0, "w(1,2)"));
        dueThings("1: 1810 1500 0 110", things(1, "w(x,2)"));
        dueThings("5: 1810 1500 0 110", things(0, "w(x,2)"));
        dueThings("5: 1810 1500 0 110", things(0, "w(1,x)"));
        dueThings("1: 1811 1500 0 110", things(0, "w(x,x)"));
    }

    private static void thingsOfPairs() {
        dueThings("1: 1810 1500 1 109", things(2, "(case (1,2) of (a,b) in 3)"));
        dueThings("5: 1810 1500 1 109", things(1, "(case (1,2) of (a,b) in 3)"));
        dueThings("5: 1811 1500 1 109", things(0, "(case (1,2) of (a,b) in 3)"));
        dueThings("1: 1811 1500 1 109", things(1, "(case (x,2) of (a,b) in 3)"));
        dueThings("5: 1811 1500 1 109", things(0, "(case (x,2) of (a,b) in 3)"));
        dueThings("5: 1811 1500 1 109", things(0, "(case (1,x) of (a,b) in 3)"));
        dueThings("1: 1812 1500 1 109", things(0, "(case (x,x) of (a,b) in 3)"));
    }

    /** 1500 CALLS, each with a PAIR and a THING of its own, are not too many. */
    private static void countedApart() {
        String all = sumOf(30, "g(x)");
        String more = ";g(x:num):num=case (x,1) of (a,b) in " + sumOf(49, "u(a)") + ";u(x:num):num=case (x,1) of (a,b) in a;";
        dueRun("1: 7439 1500 1500 1500 16 1500", "f(x:num):num=" + all + more);
        dueRun("5: 7441 1500 1500 1500 17 1500", "f(x:num):num=" + all + "+u(x)" + more);
        dueRun("5: 7440 1499 1500 1500 17 1499", "f(x:num):num=case (x,x) of (a,b) in " + all + more);
        dueRun("5: 7439 1500 1500 1500 17 1500", "f(x:num):num=let a=1 in " + all + more);
    }

    private static void stepsAheadOfCalls() {
        String text = "f():num=" + sumOf(30, "g()") + "+u();g():num=" + sumOf(49, "u()") + ";u():num=1;";
        // the call itself is a STEP, its CALL comes behind that, the STEP of the E behind both
        Calls.dueText("3: 4440 0 0 1500 15 0", Calls.of(text).ran("", 0, 1, 4440));
        Calls.dueText("5: 4441 0 0 1500 15 0", Calls.of(text).ran("", 0, 1, 4441));
        String one = "f(x:num):num=g(x+1);g(x:num):num=let a=2 in x;";
        Calls.dueText("3: 0 0 0 0 0 0", Calls.of(one).ran("1", 0, 1, 0));
        Calls.dueText("3: 1 1 0 1 1 1", Calls.of(one).ran("1", 0, 1, 1));
        Calls.dueText("3: 2 2 0 1 2 2", Calls.of(one).ran("1", 0, 1, 2));
    }

    /** What a demand asks for, a bit each: the whole is part 0, part p has the parts 2 p + 1 and 2 p + 2. */
    private static int bits(int type, int d, int part) {
        if (d == 0) {
            return 0;
        }
        if (type == 0) {
            return 1 << part;
        }
        int n = DEMANDS[SECOND[type]];
        return 1 << part | bits(FIRST[type], (d - 1) / n, 2 * part + 1) | bits(SECOND[type], (d - 1) % n, 2 * part + 2);
    }

    private static boolean asks(int bits, int part) {
        return (bits >> part & 1) == 1;
    }

    private static void answersByEachDemand() {
        for (int d = 1; d < 26; d++) {
            Calls c = Calls.of("f():((num,num),(num,num))=((10,20),(30,40));");
            int asked = bits(4, d, 0);
            int pairs = 1 + (asks(asked, 1) ? 1 : 0) + (asks(asked, 2) ? 1 : 0);
            int steps = Integer.bitCount(asked);
            Calls.dueText("1: " + steps + " " + 2 * pairs + " " + pairs + " 0 1 " + (2 * pairs - steps + 1), c.ran("", 0, d, 100));
            for (int part = 0; part < 7; part++) {
                int p = part;
                if (p > 2 && asks(asked, p)) {
                    Calls.due(10 * (p - 2), () -> c.x.result(p));
                } else {
                    Calls.dueIndex(() -> c.x.result(p));
                }
            }
            int e = d;
            Calls.due(3, () -> c.x.run(0, e, steps - 1));
            Calls.due(1, () -> c.x.run(0, e, steps));
        }
        Calls c = Calls.of("f():((num,num),(num,num))=((10,20),(30,40));");
        for (int d : new int[] {MIN, -1, 0, 26, MAX}) {
            Calls.dueIndex(() -> c.x.run(0, d, 100));
        }
    }

    /** The inputs of a type, that of one part not being there. */
    private static String without(int type, int part, int gone) {
        if (part == gone) {
            return "u ";
        }
        if (type == 0) {
            return part + " ";
        }
        return "p " + without(FIRST[type], 2 * part + 1, gone) + without(SECOND[type], 2 * part + 2, gone);
    }

    private static void inputsThatAreNotThere() {
        for (int type = 0; type < TYPES.length; type++) {
            int all = bits(type, DEMANDS[type] - 1, 0);
            for (int d = 1; d < DEMANDS[type]; d++) {
                for (int gone = 0; gone < 7; gone++) {
                    Calls c = Calls.of("f(p:" + TYPES[type] + "):" + TYPES[type] + "=p;");
                    boolean ends = asks(all, gone) && asks(bits(type, d, 0), gone);
                    Calls.dueText((ends ? "2" : "1") + ": 1 0 0 0 1 0", c.ran(without(type, 0, gone), 0, d, 100));
                    Calls.dueYes(true, () -> c.x.needed(0));
                }
            }
        }
    }

    private static void fewestAndMostInputs() {
        Calls c = Calls.of("f():num=1;");
        Calls.due(0, () -> c.x.told(6));
        for (int n = 1; n <= 40; n++) {
            int m = n;
            Calls.due(m, () -> c.x.input(m % 3, m));
        }
        for (int kind = 0; kind <= 2; kind++) {
            int k = kind;
            Calls.dueState(() -> c.x.input(k, 0));
        }
        for (int kind : new int[] {MIN, -1, 3, MAX}) {
            Calls.dueArgument(() -> c.x.input(kind, 0));
            Calls.dueArgument(() -> new StrictProofs().input(kind, 0));
        }
        Calls.due(40, () -> c.x.told(6));
        // they are too many for any FUNCTION, and stay
        Calls.dueArgument(() -> c.x.run(0, 1, 10));
        Calls.dueState(() -> c.x.input(0, 0));
        Calls.due(40, () -> c.x.told(6));
    }

    private static void dueInputs(boolean fit, int params, int given) {
        String pairs = "((num,num),(num,num))";
        String text = "f(" + ("a:" + pairs + ",b:" + pairs + ",c:" + pairs + ",d:" + pairs).substring(0, Math.max(0, 24 * params - 1))
                + "):num=1;";
        Calls c = Calls.of(text);
        for (int n = 0; n < given; n++) {
            int of = n % 7;
            Calls.due(n + 1, () -> c.x.input(of == 0 || of == 1 || of == 4 ? 2 : 0, 5));
        }
        if (fit) {
            Calls.due(1, () -> c.x.run(0, 1, 10));
        } else {
            Calls.dueArgument(() -> c.x.run(0, 1, 10));
        }
        Calls.due(fit ? 0 : given, () -> c.x.told(6));
        Calls.due(fit ? 1 : given + 1, () -> c.x.input(0, 5));
    }

    private static void inputsOneMoreOrFewer() {
        for (int params = 0; params <= 4; params++) {
            for (int given = 0; given <= 35; given++) {
                dueInputs(given == 7 * params, params, given);
            }
        }
        // used up, they are those of no other run
        Calls c = Calls.of("f(x:num):num=x;");
        Calls.due(1, () -> c.inputs("5").x.run(0, 1, 10));
        Calls.dueArgument(() -> c.x.run(0, 1, 10));
        Calls.due(5, () -> c.x.result(0));
        Calls.due(3, () -> c.inputs("6").x.run(0, 1, 0));
        Calls.due(0, () -> c.x.told(6));
        Calls.dueArgument(() -> c.x.run(0, 1, 10));
    }

    private static void whatIsTold() {
        Calls c = new Calls();
        for (int what : new int[] {MIN, -1, 7, MAX}) {
            Calls.dueIndex(() -> c.x.told(what));
        }
        for (int round = 0; round < 2; round++) {
            for (int what = 0; what <= 6; what++) {
                int w = what;
                Calls.due(0, () -> c.x.told(w));
            }
            c.tape("f(x:num):num=let a=1 in case (a,2) of (b,c) in f(4);").x.read();
        }
        // four STEPS and three DEPTHS each time
        Calls.dueText("4: 200 150 50 50 150 150", c.ran("1", 0, 1, 20000));
        for (int what : new int[] {MIN, -1, 7, MAX}) {
            Calls.dueIndex(() -> c.x.told(what));
        }
        // a PROGRAM in place of it: what was run is gone
        c.tape("f():num=1;").x.read();
        for (int what = 0; what <= 6; what++) {
            int w = what;
            Calls.due(0, () -> c.x.told(w));
        }
    }

    private static void resultsOfEachType() {
        for (int type = 0; type < TYPES.length; type++) {
            Calls c = Calls.of("f(p:" + TYPES[type] + "):" + TYPES[type] + "=p;");
            int all = bits(type, DEMANDS[type] - 1, 0);
            c.inputs(without(type, 0, -1)).x.run(0, DEMANDS[type] - 1, 100);
            for (int part = 0; part < 7; part++) {
                int p = part;
                if (asks(all, p) && !asks(all, 2 * p + 1)) {
                    Calls.due(p, () -> c.x.result(p));
                } else {
                    Calls.dueIndex(() -> c.x.result(p));
                }
            }
            for (int p : new int[] {MIN, -1, 7, 8, MAX}) {
                Calls.dueIndex(() -> c.x.result(p));
            }
        }
    }

    /** Numbers that could be taken for places of THINGS that have a value. */
    private static void resultsOfNoPart() {
        for (int number = 0; number < 3; number++) {
            Calls c = Calls.of("f():num=let a=" + number + " in case (a,a+0) of (b,c) in let d=1 in (c*d)+(a*0);");
            Calls.due(1, () -> c.x.run(0, 1, 100));
            int n = number;
            Calls.due(n, () -> c.x.result(0));
            for (int part : new int[] {MIN, MIN + 1, -7, -6, -5, -4, -3, -2, -1, 1, 2, 3, 4, 5, 6, 7, 8, MAX - 1, MAX}) {
                Calls.dueIndex(() -> c.x.result(part));
            }
        }
    }

    /** A run is as on a new object, however the one before it ended. */
    private static void runsBehindRuns() {
        String text = "f(x:num):num=let a=x+1 in a;g(x:num):num=let a=x+1 in 2;h(x:num):num=0+(1+fail num);l(x:num):num=l(x+1);"
                + "t(n:num):num=if n==0 then 1 else t(n-1)+t(n-1);";
        int[][] runs = {{0, 100}, {1, 100}, {2, 100}, {0, 4}, {3, 100}, {3, 1000}, {4, 20000}};
        String[] due = {"1: 5 1 0 0 4 0", "1: 2 1 0 0 2 1", "2: 5 0 0 0 3 0", "3: 4 1 0 0 4 0", "3: 100 100 0 100 100 100",
            "4: 150 150 0 150 150 150", "5: "};
        for (int i = 0; i < runs.length; i++) {
            String alone = Calls.of(text).ran("20", runs[i][0], 1, runs[i][1]);
            Calls.dueText(due[i], alone.substring(0, Math.min(due[i].length(), alone.length())));
            for (int j = 0; j < runs.length; j++) {
                Calls c = Calls.of(text);
                c.ran("20", runs[j][0], 1, runs[j][1]);
                Calls.dueText(alone, c.ran("20", runs[i][0], 1, runs[i][1]));
                Calls.dueYes(i != 1 && i != 2 && i < 4 || i == 6, () -> c.x.needed(0));
            }
        }
    }

    /** The INPUTS are counted nowhere: the last of all PAIRS and THINGS is none of them. */
    private static void inputsBesideAllThatIsMade() {
        String more = ";g(x:num):num=case (x,1) of (a,b) in " + sumOf(49, "u(a)") + ";u(x:num):num=case (x,1) of (a,b) in a*b;";
        Calls c = Calls.of("f(p:(num,num),x:num):num=" + sumOf(30, "g(x)") + "+(case p of (a,b) in a-b*2)" + more);
        Calls.due(1, () -> c.inputs("p 700 60 1").x.run(0, 1, 20000));
        Calls.due(1470 + 700 - 120, () -> c.x.result(0));
        Calls.due(1500, () -> c.x.told(1));
        Calls.due(1500, () -> c.x.told(2));
        Calls.due(1500, () -> c.x.told(3));
        Calls.due(30, () -> c.x.told(5));
    }

    private static void resultsOfOtherEnds() {
        // each of these comes behind a run that has a result
        String text = "f(x:num):num=x;g(x:num):num=g(x);h(n:num):num=if n==0 then 1 else h(n-1)+h(n-1);";
        int[][] runs = {{1, 0, 0, 5, 9}, {2, 1, 0, 0, 9}, {3, 0, 0, 5, 0}, {4, 0, 1, 5, 9999}, {5, 0, 2, 20, 20000}};
        for (int[] r : runs) {
            Calls c = Calls.of(text);
            Calls.due(1, () -> c.inputs("8").x.run(0, 1, 9));
            Calls.due(8, () -> c.x.result(0));
            c.x.input(r[1], r[3]);
            Calls.due(r[0], () -> c.x.run(r[2], 1, r[4]));
            if (r[0] == 1) {
                Calls.due(5, () -> c.x.result(0));
            } else {
                Calls.dueIndex(() -> c.x.result(0));
            }
        }
    }

    private static void neededParams() {
        for (int params = 0; params <= 4; params++) {
            String all = "a:num,b:num,c:num,d:num".substring(0, Math.max(0, 6 * params - 1));
            for (int used = 0; used < Math.max(1, params); used++) {
                Calls c = Calls.of("f(" + all + "):num=" + (params == 0 ? "1" : "abcd".charAt(used)) + ";");
                Calls.dueIndex(() -> c.x.needed(0) ? 1 : 0);
                Calls.due(1, () -> c.inputs("1 2 3 4".substring(0, Math.max(0, c.x.function(0, 0) * 2 - 1))).x.run(0, 1, 9));
                for (int param = 0; param < params; param++) {
                    int p = param;
                    Calls.dueYes(p == used, () -> c.x.needed(p));
                }
                for (int p : new int[] {MIN, -1, params, MAX}) {
                    Calls.dueIndex(() -> c.x.needed(p) ? 1 : 0);
                }
            }
        }
    }
}
