/** The boundaries of 2 DEMANDS and of promises 7 to 12: 0 and ALL of each TYPE, DEAD ROWS, the first ROW and the last. */
public final class DemandBoundsTest {
    private static final String[] TYPES = {"num", "(num,num)", "(num,(num,num))", "((num,num),num)", "((num,num),(num,num))"};
    private static final int[] DEMANDS = {2, 5, 11, 11, 26};
    private static final int[] FIRST = {0, 0, 0, 1, 1};
    private static final int[] SECOND = {0, 0, 1, 0, 1};

    public static void main(String[] args) {
        for (int type = 0; type < TYPES.length; type++) {
            demandsOfAnswers(type);
            demandsOfParams(type);
            deadRows(type);
            strictByTheFirstRow(type);
            tooMuchByTheRow(type);
            joined(type, false);
            joined(type, true);
        }
        for (int type = 1; type < TYPES.length; type++) {
            partsOfPairs(type);
            casesOfPairs(type);
            letsOfPairs(type);
        }
        deadJoinedWithOthers();
        deadArguments();
        fewestAndManyRounds();
        roundsBeginAnew();
        firstRowThatTellsTooMuch();
        deadRowsThatTellTooMuch();
        mostParams();
        Calls.end();
    }

    /** What a demand asks for, a bit each: the whole is part 0, part p has the parts 2 p + 1 and 2 p + 2. */
    private static int bits(int type, int d, int part) {
        if (d == 0) {
            return 0;
        }
        if (type == 0) {
            return 1 << part;
        }
        int n = DEMANDS[SECOND[type]];
        return 1 << part | bits(FIRST[type], (d - 1) / n, 2 * part + 1) | bits(SECOND[type], (d - 1) % n, 2 * part + 2);
    }

    private static boolean isWithin(int type, int less, int more) {
        return (bits(type, less, 0) & ~more) == 0;
    }

    private static void demandsOfAnswers(int type) {
        int n = DEMANDS[type];
        Calls c = Calls.of("f(a:" + TYPES[type] + "):" + TYPES[type] + "=a;");
        Calls.due(n, () -> c.x.function(0, 2));
        Calls.due(2, c.x::rounds);
        for (int d = 1; d < n; d++) {
            int e = d;
            Calls.dueYes(false, () -> c.x.dead(0, e));
            Calls.due(e, () -> c.x.asks(0, e, 0));
            Calls.due(e, () -> c.x.plant(0, e, 0, e));
        }
        for (int d : new int[] {0, n, -1, Integer.MIN_VALUE, Integer.MAX_VALUE}) {
            Calls.dueIndex(() -> c.x.dead(0, d) ? 1 : 0);
            Calls.dueIndex(() -> c.x.asks(0, d, 0));
            Calls.dueIndex(() -> c.x.plant(0, d, 0, 0));
            Calls.dueIndex(() -> c.inputs("u").x.run(0, d, 10));
        }
        Calls.due(-1, c.x::check);
    }

    private static void demandsOfParams(int type) {
        int n = DEMANDS[type];
        Calls c = Calls.of("f(a:num,b:" + TYPES[type] + "):num=a;");
        Calls.due(n, () -> c.x.function(0, 4));
        c.x.rounds();
        int had = 0;
        for (int v : new int[] {0, n - 1, 1, n - 1, 0}) {
            int due = had;
            Calls.due(due, () -> c.x.plant(0, 1, 1, v));
            Calls.due(v, () -> c.x.asks(0, 1, 1));
            had = v;
        }
        c.x.plant(0, 1, 1, n - 1);
        for (int v : new int[] {-1, n, Integer.MIN_VALUE, Integer.MAX_VALUE}) {
            Calls.dueArgument(() -> c.x.plant(0, 1, 1, v));
            Calls.due(n - 1, () -> c.x.asks(0, 1, 1));
        }
        Calls.due(1, () -> c.x.asks(0, 1, 0));
    }

    private static Calls deadOnes(int type) {
        String params = "(a:num,b:" + TYPES[type] + ",c:((num,num),(num,num)))";
        Calls c = Calls.of("f" + params + ":" + TYPES[type] + "=f(a,b,c);");
        Calls.due(1, c.x::rounds);
        return c;
    }

    private static void dueRow(Calls c, int d, boolean dead, int a, int b, int last) {
        Calls.dueYes(dead, () -> c.x.dead(0, d));
        Calls.due(a, () -> c.x.asks(0, d, 0));
        Calls.due(b, () -> c.x.asks(0, d, 1));
        Calls.due(last, () -> c.x.asks(0, d, 2));
    }

    /** A planted ROW is DEAD no more, by ALL too; the ROWS of other d stay DEAD. */
    private static void deadRows(int type) {
        int all = DEMANDS[type] - 1;
        for (int v : new int[] {0, 1, all}) {
            Calls c = deadOnes(type);
            for (int d = 1; d <= all; d++) {
                dueRow(c, d, true, 1, all, 25);
            }
            Calls.due(all, () -> c.x.plant(0, all, 1, v));
            dueRow(c, all, false, 1, v, 25);
            if (all > 1) {
                dueRow(c, 1, true, 1, all, 25);
                Calls.due(25, () -> c.x.plant(0, 1, 2, 0));
                dueRow(c, 1, false, 1, all, 0);
                dueRow(c, all, false, 1, v, 25);
            }
            Calls.due(1, () -> c.x.plant(0, all, 0, 0));
            dueRow(c, all, false, 0, v, 25);
            Calls.due(1, c.x::rounds);
            dueRow(c, all, true, 1, all, 25);
        }
    }

    private static void strictByTheFirstRow(int type) {
        int n = DEMANDS[type];
        Calls c = Calls.of("f(a:num,b:" + TYPES[type] + "):(num,num)=(1,2);");
        c.x.rounds();
        for (int v = 0; v < n; v++) {
            int w = v;
            c.x.plant(0, 1, 1, w);
            Calls.dueYes(w > 0, () -> c.x.strict(0, 1));
            Calls.dueYes(false, () -> c.x.strict(0, 0));
        }
        c.x.plant(0, 1, 1, 0);
        for (int d = 2; d <= 4; d++) {
            c.x.plant(0, d, 1, n - 1);
        }
        Calls.dueYes(false, () -> c.x.strict(0, 1));
        // a DEAD ROW has ALL, which is something
        Calls dead = deadOnes(type);
        for (int param = 0; param < 3; param++) {
            int p = param;
            Calls.dueYes(true, () -> dead.x.strict(0, p));
        }
    }

    /** Of an E that asks d a ROW may have whatever is within d. */
    private static void tooMuchByTheRow(int type) {
        int n = DEMANDS[type];
        for (int d = 1; d < n; d++) {
            Calls c = Calls.of("f(a:" + TYPES[type] + "):" + TYPES[type] + "=a;");
            c.x.rounds();
            for (int v = 0; v < n; v++) {
                c.x.plant(0, d, 0, v);
                Calls.due(isWithin(type, v, bits(type, d, 0)) ? -1 : d, c.x::check);
            }
        }
    }

    /** TOGETHER or EITHER of any two demands: what g and h are made to ask, f's E asks joined. */
    private static void joined(int type, boolean either) {
        String param = "(p:" + TYPES[type] + "):num=";
        String text = "f" + param + (either ? "if 1 then g(p) else h(p)" : "g(p)+h(p)") + ";g" + param + "1;h" + param + "1;";
        int n = DEMANDS[type];
        Calls c = null;
        int pairs = 0;
        for (int a = 0; a < n; a++) {
            for (int b = 0; b < n; b++) {
                if (pairs % 8 == 0) {
                    c = Calls.of(text);
                    c.x.rounds();
                }
                pairs++;
                c.x.plant(1, 1, 0, a);
                c.x.plant(2, 1, 0, b);
                int first = bits(type, a, 0);
                int second = bits(type, b, 0);
                dueWithin(c, type, either ? first & second : first | second, a != 0 ? 33 : b != 0 ? 65 : -1);
            }
        }
    }

    /** f's ROW tells too much by just those demands that are not within what is asked. */
    private static void dueWithin(Calls c, int type, int asked, int otherwise) {
        for (int v = 0; v < DEMANDS[type]; v++) {
            c.x.plant(0, 1, 0, v);
            Calls.due(isWithin(type, v, asked) ? otherwise : 1, c.x::check);
        }
    }

    private static void partsOfPairs(int type) {
        int n = DEMANDS[SECOND[type]];
        Calls c = Calls.of("f(a:" + TYPES[FIRST[type]] + ",b:" + TYPES[SECOND[type]] + "):" + TYPES[type] + "=(a,b);");
        c.x.rounds();
        for (int d = 1; d < DEMANDS[type]; d++) {
            int e = d;
            Calls.due((e - 1) / n, () -> c.x.asks(0, e, 0));
            Calls.due((e - 1) % n, () -> c.x.asks(0, e, 1));
        }
    }

    private static void casesOfPairs(int type) {
        int n = DEMANDS[SECOND[type]];
        for (int d = 1; d < DEMANDS[type]; d++) {
            Calls c = Calls.of("f(p:" + TYPES[type] + "):num=case p of (a,b) in g(a,b);"
                    + "g(a:" + TYPES[FIRST[type]] + ",b:" + TYPES[SECOND[type]] + "):num=1;");
            c.x.rounds();
            // even where nothing is asked of both parts the pair itself is worked out
            Calls.due(1, () -> c.x.asks(0, 1, 0));
            c.x.plant(1, 1, 0, (d - 1) / n);
            c.x.plant(1, 1, 1, (d - 1) % n);
            dueWithin(c, type, bits(type, d, 0), d == 1 ? -1 : 33);
        }
    }

    /** A let's first E is not there, unless something is asked of the NAME. */
    private static void letsOfPairs(int type) {
        Calls c = Calls.of("f(p:" + TYPES[type] + "):num=let a=p in g(a);g(p:" + TYPES[type] + "):num=1;"
                + "h():num=let a=fail " + TYPES[type] + " in g(a);");
        c.x.rounds();
        Calls.due(0, () -> c.x.asks(0, 1, 0));
        Calls.dueYes(false, () -> c.x.dead(2, 1));
        for (int d : new int[] {0, 1, DEMANDS[type] - 1}) {
            c.x.plant(1, 1, 0, d);
            dueWithin(c, type, bits(type, d, 0), d == 0 ? -1 : 33);
        }
    }

    private static void dueDead(boolean dead, String e) {
        Calls c = Calls.of("f(x:num,y:num):num=" + e + ";l(x:num):num=l(x);");
        c.x.rounds();
        Calls.dueYes(dead, () -> c.x.dead(0, 1));
        Calls.due(dead || e.contains("x") ? 1 : 0, () -> c.x.asks(0, 1, 0));
        Calls.due(dead || e.contains("y") ? 1 : 0, () -> c.x.asks(0, 1, 1));
    }

    private static void deadJoinedWithOthers() {
        for (String dead : new String[] {"fail num", "l(1)"}) {
            dueDead(true, dead);
            for (String sign : new String[] {"+", "-", "*", "<", "=="}) {
                dueDead(true, dead + sign + "x");
                dueDead(true, "x" + sign + dead);
                dueDead(true, dead + sign + dead);
            }
            dueDead(true, "if " + dead + " then x else y");
            dueDead(false, "if 1 then " + dead + " else 1");
            dueDead(false, "if 1 then 1 else " + dead);
            dueDead(false, "if x then " + dead + " else y");
            dueDead(false, "if x then y else " + dead);
            dueDead(true, "if x then " + dead + " else " + dead);
            dueDead(true, "let a=" + dead + " in a");
            dueDead(false, "let a=" + dead + " in 1");
            dueDead(true, "let a=1 in " + dead);
            dueDead(true, "case (1,2) of (a,b) in " + dead);
            dueDead(true, "case (" + dead + ",2) of (a,b) in a");
            dueDead(false, "case (" + dead + ",2) of (a,b) in b");
            dueDead(true, "case (" + dead + ",2) of (a,b) in a+b");
        }
        dueDead(true, "case fail (num,num) of (a,b) in 1");
    }

    private static void deadArguments() {
        Calls c = Calls.of("f(x:num):num=k(x,fail num);g(x:num):num=k(fail num,x);k(a:num,b:num):num=a;");
        Calls.due(3, c.x::rounds);
        Calls.dueYes(false, () -> c.x.dead(0, 1));
        Calls.due(1, () -> c.x.asks(0, 1, 0));
        Calls.dueYes(true, () -> c.x.dead(1, 1));
        // by the ROWS as they are: k asks its second one now, so f's E is DEAD and g's is that still
        c.x.plant(2, 1, 1, 1);
        Calls.due(65, c.x::check);
        c.x.plant(2, 1, 0, 0);
        c.x.plant(2, 1, 1, 0);
        // k asks nothing now: f's E asks nothing, and g's is DEAD no more
        Calls.due(1, c.x::check);
        c.x.plant(0, 1, 0, 0);
        Calls.due(33, c.x::check);
        Calls none = Calls.of("f():num=g();g():num=g();");
        Calls.due(1, none.x::rounds);
        Calls.dueYes(true, () -> none.x.dead(0, 1));
        Calls.dueIndex(() -> none.x.asks(0, 1, 0));
        Calls.dueIndex(() -> none.x.strict(0, 0) ? 1 : 0);
        Calls.dueIndex(() -> none.x.plant(0, 1, 0, 0));
    }

    private static void fewestAndManyRounds() {
        dueRounds(1, "f():num=fail num;");
        dueRounds(1, "f(x:num):num=f(x);g(x:num):num=f(x);");
        dueRounds(2, "f():num=1;");
        // from DEAD to ALL of each is a change
        dueRounds(2, "f(x:num):num=x;");
        dueRounds(2, "f(x:num):num=f(x);g(x:num):num=x;");
        StringBuilder ahead = new StringBuilder();
        StringBuilder behind = new StringBuilder();
        for (int f = 0; f < 11; f++) {
            ahead.append("f").append(f).append("(x:num):num=f").append(f + 1).append("(x);");
            behind.insert(0, "f" + f + "(x:num):num=f" + (f + 1) + "(x);");
        }
        // what stands behind comes a round later, what stands ahead is there in the same one
        dueRounds(13, ahead + "f11(x:num):num=x;");
        dueRounds(2, "f11(x:num):num=x;" + behind);
        // d by d: by 3 what is asked by 2 is there already, by 2 what is asked by 3 is not
        dueRounds(2, "f(x:num):(num,num)=(case f(x) of (a,b) in b,x);");
        dueRounds(3, "f(x:num):(num,num)=(x,case f(x) of (a,b) in a);");
    }

    private static void dueRounds(int want, String text) {
        Calls c = Calls.of(text);
        Calls.due(want, c.x::rounds);
        Calls.due(-1, c.x::check);
        Calls.due(want, c.x::rounds);
    }

    private static void roundsBeginAnew() {
        Calls c = Calls.of("f(x:num,y:num):num=if x then f(x-1,y) else y;");
        Calls.due(2, c.x::rounds);
        Calls.due(1, () -> c.x.asks(0, 1, 1));
        c.x.plant(0, 1, 0, 0);
        c.x.plant(0, 1, 1, 0);
        Calls.due(2, c.x::rounds);
        Calls.due(1, () -> c.x.asks(0, 1, 0));
        Calls.due(1, () -> c.x.asks(0, 1, 1));
    }

    private static Calls twelve() {
        StringBuilder text = new StringBuilder();
        for (int f = 0; f < 12; f++) {
            text.append("f").append(f).append("(x:num,y:num):((num,num),(num,num))=((1,2),(3,4));");
        }
        Calls c = Calls.of(text.toString());
        Calls.due(2, c.x::rounds);
        Calls.due(-1, c.x::check);
        return c;
    }

    private static void firstRowThatTellsTooMuch() {
        int[][] rows = {{11, 25}, {11, 1}, {10, 25}, {1, 1}, {0, 25}, {0, 2}, {0, 1}};
        Calls c = twelve();
        for (int[] r : rows) {
            c.x.plant(r[0], r[1], 1, 1);
            Calls.due(32 * r[0] + r[1], c.x::check);
        }
        for (int i = rows.length - 1; i >= 0; i--) {
            Calls.due(32 * rows[i][0] + rows[i][1], c.x::check);
            c.x.plant(rows[i][0], rows[i][1], 1, 0);
        }
        Calls.due(-1, c.x::check);
        Calls.dueIndex(() -> c.x.plant(12, 1, 0, 0));
        Calls.dueIndex(() -> c.x.plant(11, 26, 0, 0));
        Calls.dueIndex(() -> c.x.plant(11, 25, 2, 0));
    }

    private static void deadRowsThatTellTooMuch() {
        // g's ROW is DEAD as f's is; once f's is not, g's E is not either
        Calls c = Calls.of("f(x:num):num=f(x);g(x:num):num=f(x);");
        c.x.rounds();
        Calls.due(-1, c.x::check);
        c.x.plant(0, 1, 0, 1);
        Calls.due(33, c.x::check);
        c.x.plant(1, 1, 0, 1);
        Calls.due(-1, c.x::check);
        c.x.plant(0, 1, 0, 0);
        Calls.due(33, c.x::check);
        c.x.plant(1, 1, 0, 0);
        Calls.due(-1, c.x::check);
        // of an E that is DEAD no ROW has too much, as it asks ALL
        Calls d = Calls.of("f(p:((num,num),(num,num))):num=fail num;");
        d.x.rounds();
        for (int v = 0; v < 26; v++) {
            d.x.plant(0, 1, 0, v);
            Calls.due(-1, d.x::check);
        }
        // without a PARAM, too
        Calls e = Calls.of("f():num=g(1);g(x:num):num=g(x);");
        e.x.rounds();
        Calls.due(-1, e.x::check);
        e.x.plant(1, 1, 0, 0);
        Calls.due(1, e.x::check);
    }

    private static void mostParams() {
        Calls c = Calls.of("f(a:num,b:num,c:num,d:((num,num),(num,num))):num=case d of (u,v) in case v of (x,y) in y+a;");
        c.x.rounds();
        Calls.due(1, () -> c.x.asks(0, 1, 0));
        Calls.due(0, () -> c.x.asks(0, 1, 2));
        // of v's second part: 1 + 0 * 5 + (1 + 0 * 2 + 1)
        Calls.due(3, () -> c.x.asks(0, 1, 3));
        Calls.dueYes(true, () -> c.x.strict(0, 3));
        Calls.dueIndex(() -> c.x.asks(0, 1, 4));
        Calls.dueIndex(() -> c.x.strict(0, 4) ? 1 : 0);
        Calls.dueIndex(() -> c.x.plant(0, 1, 4, 0));
        Calls.dueIndex(() -> c.x.asks(0, 1, -1));
        Calls.dueIndex(() -> c.x.strict(0, -1) ? 1 : 0);
        Calls.dueIndex(() -> c.x.plant(0, 1, -1, 0));
        Calls.due(3, () -> c.x.plant(0, 1, 3, 25));
        Calls.due(1, c.x::check);
        Calls.due(25, () -> c.x.plant(0, 1, 3, 0));
        Calls.due(-1, c.x::check);
    }
}
