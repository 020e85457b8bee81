/** Promises 7 to 12: rounds, what rows have, planted rows, and rows that tell too much. */
public final class DemandsTest {
    private static final int DEAD = -1;
    private static final String PARAMS = "x:num,y:num,p:(num,num),q:((num,num),num)";

    public static void main(String[] args) {
        countOfRounds();
        signsAndNumbers();
        ifs();
        pairs();
        lets();
        cases();
        calls();
        togetherAndEither();
        deepPairs();
        deadRows();
        deepest();
        strictness();
        planting();
        tooMuch();
        wrongCalls();
        rowsStayAndGo();
        Calls.end();
    }

    /** What E asks of x, y, p, q by d; DEAD alone, if it is that. k has (x,y) = x, l is DEAD, s swaps. */
    private static void due(String type, String e, int d, int... asked) {
        Calls c = Calls.of("f(" + PARAMS + "):" + type + "=" + e + ";k(x:num,y:num):num=x;l(x:num):num=l(x);"
                + "s(p:(num,num)):(num,num)=case p of (a,b) in (b,a);");
        c.x.rounds();
        boolean dead = asked.length == 1;
        Calls.dueYes(dead, () -> c.x.dead(0, d));
        int[] all = {1, 1, 4, 10};
        for (int param = 0; param < 4; param++) {
            int p = param;
            Calls.due(dead ? all[p] : asked[p], () -> c.x.asks(0, d, p));
        }
        Calls.due(-1, c.x::check);
    }

    private static void dueNum(String e, int... asked) {
        due("num", e, 1, asked);
    }

    private static void countOfRounds() {
        dueRounds(2, "f():num=1;");
        dueRounds(1, "f():num=fail num;");
        dueRounds(1, "f():num=f();");
        dueRounds(2, "f(x:num):num=f(x);g():num=1;");
        // a ROW is looked at as it is then: what stands ahead is of this round, what stands behind is not
        dueRounds(2, "g(x:num):num=x;f(x:num):num=g(x);");
        dueRounds(3, "f(x:num):num=g(x);g(x:num):num=x;");
        dueRounds(4, "f(x:num):num=g(x);g(x:num):num=h(x);h(x:num):num=x;");
        // from DEAD to ALL of each is a change
        dueRounds(2, "f(x:num):num=x;");
        // d by d: that of 2 is there when that of 3 is looked at, not the other way round
        dueRounds(2, "f(x:num):(num,num)=(case f(x) of (a,b) in b,x);");
        dueRounds(3, "f(x:num):(num,num)=(x,case f(x) of (a,b) in a);");
        dueRounds(3, "f(n:num,a:num,b:num):num=if n then f(n-1,b,a) else a;");
        Calls c = Calls.of("f(x:num):num=g(x);g(x:num):num=x;");
        Calls.due(3, c.x::rounds);
        Calls.due(3, c.x::rounds);
        c.x.plant(1, 1, 0, 0);
        Calls.due(3, c.x::rounds);
        Calls.due(1, () -> c.x.asks(1, 1, 0));
    }

    private static void dueRounds(int want, String text) {
        Calls c = Calls.of(text);
        Calls.due(want, c.x::rounds);
        Calls.due(-1, c.x::check);
    }

    private static void signsAndNumbers() {
        dueNum("7", 0, 0, 0, 0);
        dueNum("x", 1, 0, 0, 0);
        dueNum("fail num", DEAD);
        dueNum("x+1", 1, 0, 0, 0);
        dueNum("x-y", 1, 1, 0, 0);
        dueNum("1*y", 0, 1, 0, 0);
        dueNum("x<y", 1, 1, 0, 0);
        dueNum("x==x", 1, 0, 0, 0);
        dueNum("x+fail num", DEAD);
        dueNum("fail num*x", DEAD);
    }

    private static void ifs() {
        dueNum("if x then y else y", 1, 1, 0, 0);
        dueNum("if x then y else 1", 1, 0, 0, 0);
        dueNum("if 0 then y else x", 0, 0, 0, 0);
        dueNum("if x then fail num else y", 1, 1, 0, 0);
        dueNum("if x then y else fail num", 1, 1, 0, 0);
        dueNum("if x then fail num else fail num", DEAD);
        dueNum("if fail num then 1 else 2", DEAD);
        dueNum("if x then fail num else 2", 1, 0, 0, 0);
        dueNum("if x then l(x) else y", 1, 1, 0, 0);
        due("(num,num)", "if x then p else (x,y)", 1, 1, 0, 0, 0);
        due("(num,num)", "if x then p else p", 3, 1, 0, 3, 0);
        due("(num,num)", "if y then fail (num,num) else p", 2, 0, 1, 2, 0);
    }

    private static void pairs() {
        due("(num,num)", "(x,y)", 1, 0, 0, 0, 0);
        due("(num,num)", "(x,y)", 2, 0, 1, 0, 0);
        due("(num,num)", "(x,y)", 3, 1, 0, 0, 0);
        due("(num,num)", "(x,y)", 4, 1, 1, 0, 0);
        due("(num,num)", "(fail num,y)", 1, 0, 0, 0, 0);
        due("(num,num)", "(fail num,y)", 2, 0, 1, 0, 0);
        due("(num,num)", "(fail num,y)", 3, DEAD);
        due("(num,num)", "(fail num,y)", 4, DEAD);
        due("(num,num)", "p", 3, 0, 0, 3, 0);
    }

    private static void lets() {
        dueNum("let a=x in 1", 0, 0, 0, 0);
        dueNum("let a=x in a", 1, 0, 0, 0);
        dueNum("let a=fail num in y", 0, 1, 0, 0);
        dueNum("let a=fail num in a", DEAD);
        dueNum("let a=x in fail num", DEAD);
        dueNum("let x=y in x", 0, 1, 0, 0);
        dueNum("let x=1 in x", 0, 0, 0, 0);
        dueNum("let x=x+1 in let x=x+1 in x", 1, 0, 0, 0);
        dueNum("let a=p in case a of (b,c) in c", 0, 0, 2, 0);
        dueNum("let a=(x,y) in case a of (b,c) in c", 0, 1, 0, 0);
        dueNum("let a=s(p) in case a of (b,c) in c", 0, 0, 3, 0);
        dueNum("let a=x in if y then a else 1", 0, 1, 0, 0);
        dueNum("let a=x in let b=a in b+y", 1, 1, 0, 0);
    }

    private static void cases() {
        dueNum("case p of (a,b) in 1", 0, 0, 1, 0);
        dueNum("case p of (a,b) in b", 0, 0, 2, 0);
        dueNum("case p of (a,b) in a", 0, 0, 3, 0);
        dueNum("case p of (a,b) in a+b", 0, 0, 4, 0);
        dueNum("case p of (a,b) in fail num", DEAD);
        dueNum("case fail (num,num) of (a,b) in 1", DEAD);
        dueNum("case (x,fail num) of (a,b) in a", 1, 0, 0, 0);
        dueNum("case (fail num,x) of (a,b) in a", DEAD);
        dueNum("case p of (x,p) in x", 0, 0, 3, 0);
        dueNum("case s(p) of (a,b) in a", 0, 0, 2, 0);
        dueNum("case (y,x) of (x,y) in x", 0, 1, 0, 0);
    }

    private static void calls() {
        dueNum("k(x,y)", 1, 0, 0, 0);
        dueNum("k(y,fail num)", 0, 1, 0, 0);
        dueNum("k(fail num,y)", DEAD);
        dueNum("l(x)", DEAD);
        dueNum("k(k(x,y),l(x))", 1, 0, 0, 0);
        due("(num,num)", "s(p)", 1, 0, 0, 1, 0);
        due("(num,num)", "s(p)", 2, 0, 0, 3, 0);
        due("(num,num)", "s(s(p))", 2, 0, 0, 2, 0);
        due("(num,num)", "s((x,l(y)))", 2, 1, 0, 0, 0);
        due("(num,num)", "s((x,l(y)))", 3, DEAD);
    }

    private static void togetherAndEither() {
        String a = "(case p of (a,b) in a)";
        String b = "(case p of (a,b) in b)";
        String none = "(case p of (a,b) in 1)";
        dueNum(a + "+" + b, 0, 0, 4, 0);
        dueNum(a + "+" + none, 0, 0, 3, 0);
        dueNum(none + "*" + none, 0, 0, 1, 0);
        dueNum("if x then " + a + " else " + b, 1, 0, 1, 0);
        dueNum("if x then " + a + " else " + a + "+" + b, 1, 0, 3, 0);
        dueNum("if x then " + a + " else 1", 1, 0, 0, 0);
        dueNum("if " + b + " then " + a + " else 1", 0, 0, 2, 0);
    }

    private static void deepPairs() {
        dueNum("case q of (u,v) in 1", 0, 0, 0, 1);
        dueNum("case q of (u,v) in v", 0, 0, 0, 2);
        dueNum("case q of (u,v) in case u of (a,b) in 1", 0, 0, 0, 3);
        dueNum("case q of (u,v) in case u of (a,b) in b", 0, 0, 0, 5);
        dueNum("case q of (u,v) in case u of (a,b) in a+v", 0, 0, 0, 8);
        dueNum("case q of (u,v) in case u of (a,b) in (a+b)+v", 0, 0, 0, 10);
        due("(num,num)", "case q of (u,v) in u", 1, 0, 0, 0, 3);
        due("(num,num)", "case q of (u,v) in u", 4, 0, 0, 0, 9);
        due("(num,num)", "case q of (u,v) in (v,v)", 1, 0, 0, 0, 1);
        due("((num,num),num)", "q", 7, 0, 0, 0, 7);
        due("((num,num),num)", "(p,x)", 1, 0, 0, 0, 0);
        due("((num,num),num)", "(p,x)", 2, 1, 0, 0, 0);
        due("((num,num),num)", "(p,x)", 9, 0, 0, 4, 0);
        due("(num,(num,num))", "(x,p)", 5, 0, 0, 4, 0);
        due("(num,(num,num))", "(x,p)", 6, 1, 0, 0, 0);
        due("(num,(num,num))", "(x,p)", 8, 1, 0, 2, 0);
        due("((num,num),(num,num))", "(p,(x,y))", 25, 1, 1, 4, 0);
        due("((num,num),(num,num))", "(p,(x,y))", 13, 0, 1, 2, 0);
        due("((num,num),(num,num))", "(p,(x,y))", 6, 0, 0, 1, 0);
        // TOGETHER and EITHER of pairs in pairs, the first or the second part being one
        String first = "(case q of (u,v) in case u of (a,b) in a)";
        String second = "(case q of (u,v) in case u of (a,b) in b)";
        dueNum(first + "+" + second, 0, 0, 0, 9);
        dueNum("if x then " + first + " else " + second, 1, 0, 0, 3);
        Calls c = Calls.of("f(r:(num,(num,num))):num=(case r of (u,v) in case v of (a,b) in a)+(case r of (u,v) in case v of (a,b) in b);"
                + "g(r:(num,(num,num))):num=if 1 then case r of (u,v) in case v of (a,b) in a+u else case r of (u,v) in case v of (a,b) in b+u;"
                + "h(r:(num,(num,num))):num=(case r of (u,v) in u)+(case r of (u,v) in case v of (a,b) in b);");
        c.x.rounds();
        Calls.due(5, () -> c.x.asks(0, 1, 0));
        Calls.due(7, () -> c.x.asks(1, 1, 0));
        Calls.due(8, () -> c.x.asks(2, 1, 0));
        dueNum("if x then case q of (u,v) in case u of (a,b) in a+v else case q of (u,v) in case u of (a,b) in a+b", 1, 0, 0, 7);
    }

    private static void deadRows() {
        Calls c = Calls.of("f(a:num,b:((num,num),(num,num)),c:(num,(num,num))):(num,num)=f(a,b,c);g():num=g();");
        Calls.due(1, c.x::rounds);
        for (int d = 1; d < 5; d++) {
            int e = d;
            Calls.dueYes(true, () -> c.x.dead(0, e));
            Calls.due(1, () -> c.x.asks(0, e, 0));
            Calls.due(25, () -> c.x.asks(0, e, 1));
            Calls.due(10, () -> c.x.asks(0, e, 2));
        }
        Calls.dueYes(true, () -> c.x.dead(1, 1));
        Calls.due(-1, c.x::check);
    }

    private static void deepest() {
        Calls c = Calls.of("f(a:num,b:num):num=" + "1<1+1*f(a,".repeat(19) + "b<b+b*b" + ")".repeat(19) + ";");
        Calls.due(1, c.x::rounds);
        Calls.dueYes(true, () -> c.x.dead(0, 1));
        Calls d = Calls.of("f(a:num,b:num):num=" + "1<1+1*g(a,".repeat(19) + "b<b+b*b" + ")".repeat(19)
                + ";g(a:num,b:num):num=if a then b else b;");
        Calls.due(3, d.x::rounds);
        Calls.due(1, () -> d.x.asks(0, 1, 1));
        Calls e = Calls.of("f(a:num):num=" + "if a then a else ".repeat(19) + "a;");
        Calls.due(2, e.x::rounds);
        Calls.due(1, () -> e.x.asks(0, 1, 0));
    }

    private static void strictness() {
        Calls c = Calls.of("f(x:num,p:(num,num)):num=case p of (a,b) in 1;g(x:num,p:(num,num)):(num,num)=(x,x);"
                + "h(x:num):num=h(x);");
        c.x.rounds();
        Calls.dueYes(false, () -> c.x.strict(0, 0));
        Calls.dueYes(true, () -> c.x.strict(0, 1));
        Calls.dueYes(false, () -> c.x.strict(1, 0));
        Calls.dueYes(false, () -> c.x.strict(1, 1));
        Calls.dueYes(true, () -> c.x.strict(2, 0));
        c.x.plant(1, 4, 1, 4);
        Calls.dueYes(false, () -> c.x.strict(1, 1));
        c.x.plant(1, 1, 1, 1);
        Calls.dueYes(true, () -> c.x.strict(1, 1));
    }

    private static void planting() {
        Calls c = Calls.of("f(a:num,b:(num,num),c:num):num=f(a,b,c);g(x:num):num=f(x,(x,x),x);h():num=g(1);");
        Calls.due(1, c.x::rounds);
        Calls.due(-1, c.x::check);
        Calls.due(1, () -> c.x.plant(0, 1, 0, 0));
        Calls.dueYes(false, () -> c.x.dead(0, 1));
        Calls.due(0, () -> c.x.asks(0, 1, 0));
        Calls.due(4, () -> c.x.asks(0, 1, 1));
        Calls.due(1, () -> c.x.asks(0, 1, 2));
        // g's ROW is DEAD, and its E is that no more
        Calls.due(33, c.x::check);
        Calls.due(1, () -> c.x.plant(1, 1, 0, 1));
        Calls.dueYes(false, () -> c.x.dead(1, 1));
        Calls.due(65, c.x::check);
        Calls.due(4, () -> c.x.plant(0, 1, 1, 2));
        Calls.due(2, () -> c.x.plant(0, 1, 1, 2));
        Calls.due(0, () -> c.x.plant(0, 1, 0, 1));
        Calls.due(1, () -> c.x.asks(0, 1, 0));
        Calls.dueYes(false, () -> c.x.dead(0, 1));
        Calls last = Calls.of("f(a:num,b:num,c:num,d:(num,num)):num=a;");
        last.x.rounds();
        Calls.due(0, () -> last.x.plant(0, 1, 3, 2));
        Calls.due(2, () -> last.x.asks(0, 1, 3));
        Calls.due(1, last.x::check);
        // ALL of each is not DEAD
        Calls.due(1, c.x::rounds);
        Calls.dueYes(true, () -> c.x.dead(0, 1));
        Calls.due(4, () -> c.x.plant(0, 1, 1, 4));
        Calls.dueYes(false, () -> c.x.dead(0, 1));
        Calls.due(33, c.x::check);
    }

    private static void tooMuch() {
        Calls c = Calls.of("k(x:num,y:num):num=x;s(p:(num,num)):(num,num)=case p of (a,b) in (b,a);");
        c.x.rounds();
        Calls.due(-1, c.x::check);
        // less than what is asked is not too much
        c.x.plant(1, 4, 0, 3);
        Calls.due(-1, c.x::check);
        c.x.plant(1, 4, 0, 0);
        Calls.due(-1, c.x::check);
        // by d 3 the second part is asked, 2
        c.x.plant(1, 3, 0, 1);
        Calls.due(-1, c.x::check);
        c.x.plant(1, 3, 0, 3);
        Calls.due(35, c.x::check);
        c.x.plant(1, 2, 0, 4);
        Calls.due(34, c.x::check);
        c.x.plant(0, 1, 1, 1);
        Calls.due(1, c.x::check);
        c.x.plant(0, 1, 1, 0);
        Calls.due(34, c.x::check);
        c.x.rounds();
        Calls.due(-1, c.x::check);
        // of a DEAD E nothing is too much
        Calls d = Calls.of("f(x:num):num=fail num;");
        d.x.rounds();
        d.x.plant(0, 1, 0, 1);
        Calls.due(-1, d.x::check);
        d.x.plant(0, 1, 0, 0);
        Calls.due(-1, d.x::check);
        // the highest answer that there is
        StringBuilder text = new StringBuilder();
        for (int f = 0; f < 12; f++) {
            text.append("f").append(f).append("(x:num):((num,num),(num,num))=((1,2),(3,4));");
        }
        Calls e = Calls.of(text.toString());
        e.x.rounds();
        e.x.plant(11, 25, 0, 1);
        Calls.due(32 * 11 + 25, e.x::check);
        // by the ROWS as they are: a planted one bears another out
        Calls g = Calls.of("f(x:num,y:num):num=if x<1 then 1 else f(x-1,y);");
        g.x.rounds();
        Calls.due(0, () -> g.x.asks(0, 1, 1));
        g.x.plant(0, 1, 1, 1);
        Calls.due(1, g.x::check);
    }

    private static void wrongCalls() {
        Calls none = new Calls();
        dueAllState(none);
        Calls.dueState(none.x::rounds);
        Calls c = Calls.of("f(x:num):(num,num)=(x,1);g():num=1;");
        dueAllState(c);
        Calls.due(2, c.x::rounds);
        int[][] rows = {{-1, 1}, {2, 1}, {0, 0}, {0, 5}, {0, -1}, {1, 2}, {1, 0},
            {Integer.MAX_VALUE, 1}, {Integer.MIN_VALUE, 1}, {0, Integer.MAX_VALUE}, {0, Integer.MIN_VALUE}};
        for (int[] r : rows) {
            Calls.dueIndex(() -> c.x.dead(r[0], r[1]) ? 1 : 0);
            Calls.dueIndex(() -> c.x.asks(r[0], r[1], 0));
            Calls.dueIndex(() -> c.x.plant(r[0], r[1], 0, 0));
            Calls.dueIndex(() -> c.x.plant(r[0], r[1], 0, 99));
        }
        int[][] params = {{0, -1}, {0, 1}, {1, 0}, {-1, 0}, {2, 0}, {0, Integer.MAX_VALUE}, {0, Integer.MIN_VALUE}};
        for (int[] p : params) {
            Calls.dueIndex(() -> c.x.asks(p[0], 1, p[1]));
            Calls.dueIndex(() -> c.x.strict(p[0], p[1]) ? 1 : 0);
            Calls.dueIndex(() -> c.x.plant(p[0], 1, p[1], 0));
            Calls.dueIndex(() -> c.x.plant(p[0], 1, p[1], -1));
        }
        for (int v : new int[] {-1, 2, Integer.MAX_VALUE, Integer.MIN_VALUE}) {
            Calls.dueArgument(() -> c.x.plant(0, 3, 0, v));
        }
        Calls.due(1, () -> c.x.asks(0, 3, 0));
        Calls.due(0, () -> c.x.asks(0, 2, 0));
        Calls.due(-1, c.x::check);
        Calls d = Calls.of("f(x:num,p:(num,num)):num=f(x,p);");
        d.x.rounds();
        Calls.dueArgument(() -> d.x.plant(0, 1, 1, 5));
        Calls.dueArgument(() -> d.x.plant(0, 1, 0, 2));
        Calls.dueYes(true, () -> d.x.dead(0, 1));
    }

    private static void dueAllState(Calls c) {
        Calls.dueState(() -> c.x.dead(0, 1) ? 1 : 0);
        Calls.dueState(() -> c.x.dead(-1, 0) ? 1 : 0);
        Calls.dueState(() -> c.x.asks(0, 1, 0));
        Calls.dueState(() -> c.x.asks(9, 9, 9));
        Calls.dueState(() -> c.x.strict(0, 0) ? 1 : 0);
        Calls.dueState(() -> c.x.strict(-1, -1) ? 1 : 0);
        Calls.dueState(() -> c.x.plant(0, 1, 0, 0));
        Calls.dueState(() -> c.x.plant(9, 9, 9, -9));
        Calls.dueState(c.x::check);
    }

    private static void rowsStayAndGo() {
        Calls c = Calls.of("f(x:num):num=x;");
        c.x.rounds();
        c.x.plant(0, 1, 0, 0);
        c.inputs("1").x.run(0, 1, 10);
        Calls.due(0, () -> c.x.asks(0, 1, 0));
        c.tape("f(x:num):num=z;").x.read();
        Calls.due(0, () -> c.x.asks(0, 1, 0));
        c.tape("f(x:num):num=x;").x.read();
        dueAllState(c);
        c.x.rounds();
        Calls.due(1, () -> c.x.asks(0, 1, 0));
    }
}
