/** Promises 13 to 17: inputs, runs by need, and what is told of them. */
public final class RunsTest {
    public static void main(String[] args) {
        givingInputs();
        inputsThatFit();
        wrongRuns();
        numbers();
        steps();
        namesAlone();
        parts();
        orderOfParts();
        undefined();
        casesOfInputs();
        endsBySteps();
        endsByDepth();
        endsByCalls();
        endsByThings();
        endsByPairs();
        results();
        resultsOfInputs();
        neededInputs();
        whatIsTold();
        Calls.end();
    }

    /** How a run ended, then STEPS, THINGS, PAIRS, CALLS, the greatest DEPTH, THINGS never NEEDED. */
    private static void due(String want, String text, String inputs, int d) {
        Calls.dueText(want, Calls.of(text).ran(inputs, 0, d, 20000));
    }

    private static void dueNumber(int want, String e) {
        Calls c = Calls.of("f(x:num,y:num,z:num):num=" + e + ";");
        Calls.due(1, () -> c.inputs("2147483647 -5 2").x.run(0, 1, 100));
        Calls.due(want, () -> c.x.result(0));
    }

    private static void givingInputs() {
        Calls c = new Calls();
        for (int n = 1; n <= 40; n++) {
            int k = n % 3;
            Calls.due(n, () -> c.x.input(k, -7));
            int m = n;
            Calls.due(m, () -> c.x.told(6));
        }
        Calls.dueState(() -> c.x.input(0, 1));
        Calls.dueState(() -> c.x.input(1, 1));
        Calls.dueState(() -> c.x.input(2, 1));
        for (int kind : new int[] {-1, 3, Integer.MAX_VALUE, Integer.MIN_VALUE}) {
            Calls.dueArgument(() -> c.x.input(kind, 0));
            Calls.dueArgument(() -> new StrictProofs().input(kind, 0));
        }
        Calls.due(40, () -> c.x.told(6));
    }

    private static void dueFit(boolean fits, String params, String inputs) {
        Calls c = Calls.of("f(" + params + "):num=1;").inputs(inputs);
        int count = c.x.told(6);
        if (fits) {
            Calls.due(1, () -> c.x.run(0, 1, 10));
            Calls.due(0, () -> c.x.told(6));
        } else {
            Calls.dueArgument(() -> c.x.run(0, 1, 10));
            Calls.due(count, () -> c.x.told(6));
            Calls.dueIndex(() -> c.x.result(0));
        }
    }

    private static void inputsThatFit() {
        dueFit(true, "", "");
        dueFit(false, "", "1");
        dueFit(false, "a:num", "");
        dueFit(true, "a:num", "1");
        dueFit(true, "a:num", "u");
        dueFit(false, "a:num", "p");
        dueFit(false, "a:num", "p 1 2");
        dueFit(false, "a:num", "1 2");
        dueFit(true, "a:(num,num)", "u");
        dueFit(true, "a:(num,num)", "p 1 u");
        dueFit(false, "a:(num,num)", "1");
        dueFit(false, "a:(num,num)", "p");
        dueFit(false, "a:(num,num)", "p 1");
        dueFit(false, "a:(num,num)", "1 2");
        dueFit(false, "a:(num,num)", "p 1 2 3");
        dueFit(false, "a:(num,num)", "u 1 2");
        dueFit(false, "a:(num,num)", "p p 1 2 3");
        dueFit(true, "a:((num,num),num)", "p p 1 2 3");
        dueFit(true, "a:((num,num),num)", "p u 3");
        dueFit(false, "a:((num,num),num)", "p 1 p 2 3");
        dueFit(true, "a:(num,(num,num))", "p 1 p 2 3");
        dueFit(false, "a:(num,(num,num))", "p p 1 2 3");
        dueFit(true, "a:((num,num),(num,num)),b:num,c:(num,num),d:num", "p p 1 2 p 3 4 5 p 6 7 8");
        dueFit(false, "a:((num,num),(num,num)),b:num,c:(num,num),d:num", "p p 1 2 p 3 4 5 p 6 7");
        dueFit(false, "a:num,b:(num,num)", "p 1 2 3");
        dueFit(true, "a:((num,num),(num,num)),b:((num,num),(num,num)),c:((num,num),(num,num)),d:((num,num),(num,num))",
                "p p 1 2 p 3 4 p p 1 2 p 3 4 p p 1 2 p 3 4 p p 1 2 p 3 4");
    }

    private static void wrongRuns() {
        Calls c = Calls.of("f(x:num):(num,num)=(x,x+1);g():num=1;");
        c.inputs("4");
        Calls.due(1, () -> c.x.run(0, 4, 50));
        c.inputs("6");
        int[][] none = {{-1, 1}, {2, 1}, {0, 0}, {0, 5}, {0, -1}, {1, 2}, {1, 0},
            {Integer.MAX_VALUE, 1}, {Integer.MIN_VALUE, 1}, {0, Integer.MAX_VALUE}, {0, Integer.MIN_VALUE}};
        for (int[] r : none) {
            Calls.dueIndex(() -> c.x.run(r[0], r[1], 50));
            Calls.dueIndex(() -> c.x.run(r[0], r[1], -1));
        }
        for (int steps : new int[] {-1, 20001, Integer.MAX_VALUE, Integer.MIN_VALUE}) {
            Calls.dueArgument(() -> c.x.run(0, 1, steps));
        }
        Calls.dueArgument(() -> c.x.run(1, 1, 50));
        // what throws changes nothing
        Calls.due(1, () -> c.x.told(6));
        Calls.due(4, () -> c.x.result(1));
        Calls.due(5, () -> c.x.result(2));
        Calls.due(4, () -> c.x.told(0));
        Calls.dueYes(true, () -> c.x.needed(0));
        Calls.due(1, () -> c.x.run(0, 4, 20000));
        Calls.due(6, () -> c.x.result(1));
        Calls empty = new Calls();
        Calls.dueState(() -> empty.x.run(0, 1, 10));
        Calls.dueState(() -> empty.x.run(-1, 0, -1));
        empty.tape("f():num=z;").x.read();
        Calls.dueState(() -> empty.x.run(0, 1, 10));
        // no rounds are needed for a run
        Calls.due(1, () -> Calls.of("f():num=1;").x.run(0, 1, 10));
    }

    private static void numbers() {
        dueNumber(-2147483648, "x+1");
        dueNumber(2147483647, "(0-x)-2");
        dueNumber(-2, "x*2");
        dueNumber(1, "x*x");
        dueNumber(-7, "y-z");
        dueNumber(-10, "y*z");
        dueNumber(1, "y<z");
        dueNumber(0, "z<y");
        dueNumber(0, "z<z");
        dueNumber(1, "z==z");
        dueNumber(0, "y==z");
        dueNumber(1, "y<1*z+3");
        dueNumber(11, "1+2*5");
        dueNumber(15, "(1+2)*5");
        dueNumber(4, "if y then 4 else 5");
        dueNumber(5, "if y+5 then 4 else 5");
        dueNumber(5, "if 0 then 4 else 5");
        dueNumber(999999999, "999999999");
        dueNumber(7, "007");
        dueNumber(3, "let x=1 in let y=x+1 in x+y");
        dueNumber(21, "case (1,2) of (x,y) in x+y*10");
        dueNumber(12, "case (1,2) of (y,x) in x+y*10");
    }

    private static void steps() {
        due("1: 1 0 0 0 1 0", "f():num=1;", "", 1);
        due("1: 3 0 0 0 2 0", "f(x:num):num=x+1;", "1", 1);
        due("1: 3 0 0 0 2 0", "f(x:num):num=(((x)))+(1);", "1", 1);
        due("1: 3 0 0 0 2 0", "f(x:num):num=if x then 1 else 2;", "0", 1);
        due("1: 7 1 0 0 5 0", "f():num=let a=1+1 in a+a;", "", 1);
        due("1: 2 1 0 0 2 1", "f():num=let a=fail num in 1;", "", 1);
        due("1: 2 1 0 1 2 1", "f(x:num):num=g(x,x+1);g(a:num,b:num):num=a;", "1", 1);
        due("1: 5 1 0 1 4 0", "f(x:num):num=g(x,x+1);g(a:num,b:num):num=b;", "1", 1);
        due("1: 2 0 0 1 2 0", "f():num=g();g():num=1;", "", 1);
        due("1: 4 2 1 0 3 1", "f():num=case (1,2) of (a,b) in a;", "", 1);
        due("1: 3 2 1 0 2 2", "f():num=case (1,2) of (a,b) in 5;", "", 1);
        // what is worked out once stays, through every name for it
        due("1: 10 1 0 1 6 0", "f():num=let a=1+1 in g(a,a);g(b:num,c:num):num=b+(c*b);", "", 1);
        // a THING in a THING
        due("1: 9 2 0 0 7 0", "f():num=let a=1+2 in let b=a*3 in b;", "", 1);
    }

    private static void namesAlone() {
        due("1: 3 0 0 0 3 0", "f(x:num):num=let a=x in let b=(a) in b;", "1", 1);
        due("1: 2 0 0 1 2 0", "f(x:num):num=g(x,(x));g(a:num,b:num):num=b;", "1", 1);
        due("1: 1 0 1 0 1 0", "f(x:num):(num,num)=(x,((x)));", "1", 4);
        due("1: 4 1 1 0 3 0", "f(x:num):num=case (x,1) of (a,b) in b;", "u", 1);
        due("1: 3 1 1 0 2 1", "f(x:num):num=case (x,1) of (a,b) in 3;", "u", 1);
        due("1: 4 1 0 1 4 0", "f(x:num):num=g(7);g(a:num):num=let b=a in b;", "1", 1);
    }

    private static void parts() {
        String pair = "f():(num,num)=(1,2);";
        due("1: 1 2 1 0 1 2", pair, "", 1);
        due("1: 2 2 1 0 1 1", pair, "", 2);
        due("1: 2 2 1 0 1 1", pair, "", 3);
        due("1: 3 2 1 0 1 0", pair, "", 4);
        String deep = "f():((num,num),(num,num))=((1,2),(3,4));";
        due("1: 1 2 1 0 1 2", deep, "", 1);
        due("1: 2 4 2 0 1 3", deep, "", 2);
        due("1: 2 4 2 0 1 3", deep, "", 6);
        due("1: 3 4 2 0 1 2", deep, "", 11);
        due("1: 7 6 3 0 1 0", deep, "", 25);
        // the DEPTH begins anew for each part
        due("1: 5 1 1 1 3 0", "f(x:num):(num,num)=(g(x),x);g(x:num):num=x*x;", "3", 4);
    }

    private static void due(String want, String text, String inputs, int d, int steps) {
        Calls.dueText(want, Calls.of(text).ran(inputs, 0, d, steps));
    }

    private static void orderOfParts() {
        // a first part's parts come ahead of the second one
        due("2: 3 4 2 0 1 2", "f():((num,num),(num,num))=((fail num,2),(3,4));", "", 25);
        due("2: 4 4 2 0 1 1", "f():((num,num),(num,num))=((1,fail num),(3,4));", "", 25);
        due("2: 5 4 2 0 1 0", "f():((num,num),(num,num))=((1,2),fail (num,num));", "", 25);
        due("3: 4 4 2 0 1 0", "f():((num,num),(num,num))=((1,2),(3,4));", "", 25, 4);
        // the left side, then the right one
        due("2: 2 0 0 0 2 0", "f(x:num):num=fail num+x;", "1", 1);
        due("2: 3 0 0 0 2 0", "f(x:num):num=x+fail num;", "1", 1);
    }

    private static void undefined() {
        due("2: 1 0 0 0 1 0", "f():num=fail num;", "", 1);
        due("2: 1 0 0 0 1 0", "f(x:num):num=x;", "u", 1);
        due("2: 1 0 0 0 1 0", "f(x:(num,num)):(num,num)=x;", "u", 1);
        due("2: 3 1 0 0 3 0", "f():num=let a=fail num in a;", "", 1);
        due("1: 1 0 0 0 1 0", "f(x:(num,num)):(num,num)=x;", "p u u", 1);
        due("2: 1 0 0 0 1 0", "f(x:(num,num)):(num,num)=x;", "p u 1", 3);
        due("1: 1 0 0 0 1 0", "f(x:(num,num)):(num,num)=x;", "p u 1", 2);
        due("1: 1 2 1 0 1 2", "f():(num,num)=(fail num,fail num);", "", 1);
        due("2: 2 2 1 0 1 1", "f():(num,num)=(fail num,fail num);", "", 2);
    }

    private static void casesOfInputs() {
        String text = "f(p:(num,num)):num=case p of (a,b) in b-a;";
        due("1: 5 0 0 0 3 0", text, "p 3 10", 1);
        due("2: 2 0 0 0 2 0", text, "u", 1);
        due("2: 4 0 0 0 3 0", text, "p 3 u", 1);
        due("2: 5 0 0 0 3 0", text, "p u 3", 1);
        Calls c = Calls.of("f(q:((num,num),(num,num)),x:num):num="
                + "case q of (u,v) in case u of (a,b) in case v of (c,d) in ((a*1000)+(b*100))+((c*10)+d);");
        c.inputs("p p 1 2 p 3 4 5").x.run(0, 1, 100);
        Calls.due(1234, () -> c.x.result(0));
    }

    private static void endsBySteps() {
        String text = "f():num=let a=1+1 in a+a;";
        due("3: 0 0 0 0 0 0", text, "", 1, 0);
        due("3: 1 1 0 0 1 1", text, "", 1, 1);
        due("3: 3 1 0 0 3 0", text, "", 1, 3);
        due("3: 6 1 0 0 5 0", text, "", 1, 6);
        due("1: 7 1 0 0 5 0", text, "", 1, 7);
        Calls c = Calls.of("f(n:num):num=if n==0 then ((1+1)+(1+1))+((1+1)+(1+1))*((1+1)+(1+1)) else f(n-1)+f(n-1);");
        c.inputs("9");
        Calls.due(3, () -> c.x.run(0, 1, 20000));
        Calls.due(20000, () -> c.x.told(0));
    }

    private static void endsByDepth() {
        String loop = "f(x:num):num=f(x);";
        due("4: 150 0 0 150 150 0", loop, "1", 1, 20000);
        due("4: 150 0 0 150 150 0", loop, "1", 1, 151);
        due("3: 150 0 0 150 150 0", loop, "1", 1, 150);
        due("3: 149 0 0 149 149 0", loop, "1", 1, 149);
        // 3 n DEPTHS of if, + and call, then an if, its NAME, the NAME's SIGN and that one's side
        Calls c = Calls.of("f(n:num):num=if n then 1+f(n-1) else 0;");
        c.inputs("48");
        Calls.due(1, () -> c.x.run(0, 1, 20000));
        Calls.due(148, () -> c.x.told(4));
        c.inputs("49");
        Calls.due(4, () -> c.x.run(0, 1, 20000));
        Calls.due(150, () -> c.x.told(4));
        Calls.dueIndex(() -> c.x.result(0));
        // eleven times twelve ifs and a call are 143 DEPTHS
        StringBuilder chain = new StringBuilder();
        for (int f = 0; f < 11; f++) {
            chain.append("f").append(f).append("():num=").append("if 1 then ".repeat(12));
            chain.append("f").append(f + 1).append("()").append(" else 0".repeat(12)).append(";");
        }
        String ends = chain + "f11():num=" + "if 1 then ".repeat(6) + "5" + " else 0".repeat(6) + ";";
        due("1: 288 0 0 11 150 0", ends, "", 1);
        String goesOn = chain + "f11():num=" + "if 1 then ".repeat(7) + "5" + " else 0".repeat(7) + ";";
        due("4: 288 0 0 11 150 0", goesOn, "", 1);
        due("3: 288 0 0 11 150 0", goesOn, "", 1, 288);
    }

    private static void endsByCalls() {
        // a call more and a THING more each time: the CALL comes first
        Calls c = Calls.of("f(n:num):num=if n==0 then 1 else f(n-1)+f(n-1);");
        c.inputs("9");
        Calls.due(1, () -> c.x.run(0, 1, 20000));
        Calls.due(512, () -> c.x.result(0));
        Calls.due(1022, () -> c.x.told(3));
        c.inputs("10");
        Calls.due(5, () -> c.x.run(0, 1, 20000));
        Calls.due(1500, () -> c.x.told(3));
        Calls.due(1500, () -> c.x.told(1));
        Calls.dueIndex(() -> c.x.result(0));
        Calls.dueYes(true, () -> c.x.needed(0));
        // calls without a THING
        Calls d = Calls.of("f(x:num):num=(g(x)+g(x))+g(x);g(x:num):num=((h(x)+h(x))+h(x))+(h(x)+h(x));"
                + "h(x:num):num=((i(x)+i(x))+(i(x)+i(x)))+((i(x)+i(x))+(i(x)+i(x)));"
                + "i(x:num):num=((j()+j())+(j()+j()))+((j()+j())+(j()+j()));j():num=1;");
        // 3 + 15 + 120 + 960
        Calls.due(1, () -> d.inputs("1").x.run(0, 1, 20000));
        Calls.due(960, () -> d.x.result(0));
        Calls.due(1098, () -> d.x.told(3));
        Calls.due(0, () -> d.x.told(1));
    }

    private static void endsByThings() {
        Calls c = Calls.of("f(n:num,m:num):num=if n==0 then 1 else f(n-1,m+1)+f(n-1,m+1);");
        c.inputs("8 0");
        Calls.due(1, () -> c.x.run(0, 1, 20000));
        Calls.due(1020, () -> c.x.told(1));
        Calls.due(510, () -> c.x.told(5));
        c.inputs("9 0");
        Calls.due(5, () -> c.x.run(0, 1, 20000));
        Calls.due(1500, () -> c.x.told(1));
        Calls.due(751, () -> c.x.told(3));
        // a let's: the CALL and its argument are there, the let's THING would be the 1501st
        Calls d = Calls.of("f(n:num):num=if n==0 then 1 else let a=n*n in let b=n*2 in f(n-1)+f(n-1);");
        d.inputs("9");
        Calls.due(5, () -> d.x.run(0, 1, 20000));
        Calls.due(1500, () -> d.x.told(1));
        // a pair's second part: the PAIR is there
        Calls e = Calls.of("f(n:num):num=if n==0 then 1 else case (n+1,n+2) of (a,b) in f(n-1)+f(n-1);");
        e.inputs("10");
        Calls.due(5, () -> e.x.run(0, 1, 20000));
        Calls.due(1500, () -> e.x.told(1));
    }

    private static void endsByPairs() {
        Calls c = Calls.of("f(n:num,x:num):num=if n==0 then 1 else case (x,x) of (a,b) in case (a,b) of (c,d) in "
                + "case (c,d) of (e,g) in case (e,g) of (h,i) in f(n-1,h)+f(n-1,h);");
        c.inputs("8 0");
        Calls.due(1, () -> c.x.run(0, 1, 20000));
        Calls.due(1020, () -> c.x.told(2));
        c.inputs("9 u");
        Calls.due(5, () -> c.x.run(0, 1, 20000));
        Calls.due(1500, () -> c.x.told(2));
        Calls.dueYes(false, () -> c.x.needed(1));
    }

    private static void dueResults(Calls c, String want) {
        String[] each = want.split(" ");
        for (int part = 0; part < 7; part++) {
            int p = part;
            if (each[p].equals("-")) {
                Calls.dueIndex(() -> c.x.result(p));
            } else {
                Calls.due(Long.parseLong(each[p]), () -> c.x.result(p));
            }
        }
        for (int p : new int[] {-1, 7, Integer.MAX_VALUE, Integer.MIN_VALUE}) {
            Calls.dueIndex(() -> c.x.result(p));
        }
    }

    private static void results() {
        Calls c = Calls.of("f():num=9;g():(num,num)=(1+1,3);h():((num,num),(num,num))=((1,2),(3,4));"
                + "i():((num,num),num)=((5,6),7);j():(num,(num,num))=(7,(8,9));k():num=fail num;");
        dueResults(c, "- - - - - - -");
        c.x.run(0, 1, 50);
        dueResults(c, "9 - - - - - -");
        c.x.run(1, 1, 50);
        dueResults(c, "- - - - - - -");
        c.x.run(1, 2, 50);
        dueResults(c, "- - 3 - - - -");
        c.x.run(1, 3, 50);
        dueResults(c, "- 2 - - - - -");
        c.x.run(1, 4, 50);
        dueResults(c, "- 2 3 - - - -");
        c.x.run(2, 25, 50);
        dueResults(c, "- - - 1 2 3 4");
        c.x.run(2, 6, 50);
        dueResults(c, "- - - - - - -");
        c.x.run(2, 1 + 2 * 5 + 3, 50);
        dueResults(c, "- - - - 2 3 -");
        c.x.run(3, 10, 50);
        dueResults(c, "- - 7 5 6 - -");
        c.x.run(4, 10, 50);
        dueResults(c, "- 7 - - - 8 9");
        c.x.run(4, 5, 50);
        dueResults(c, "- - - - - 8 9");
        c.x.run(5, 1, 50);
        dueResults(c, "- - - - - - -");
        c.x.run(0, 1, 50);
        c.x.run(0, 1, 0);
        dueResults(c, "- - - - - - -");
    }

    private static void resultsOfInputs() {
        // a number that was given has its value, whether it was needed or not
        Calls c = Calls.of("f(q:((num,num),num)):((num,num),num)=q;g(x:num,y:num):(num,num)=(y,x);"
                + "h(x:num):(num,num)=let a=x+1 in case (a,a+0) of (b,c) in (a,b);");
        c.inputs("p p 1 u 3").x.run(0, 1, 50);
        dueResults(c, "- - 3 1 - - -");
        c.inputs("p u 3").x.run(0, 1, 50);
        dueResults(c, "- - 3 - - - -");
        // later inputs are not those of the run
        c.inputs("u u u u u");
        dueResults(c, "- - 3 - - - -");
        c.tape("z").x.read();
        dueResults(c, "- - 3 - - - -");
        Calls d = Calls.of("g(x:num,y:num):(num,num)=(y,x);h(x:num):(num,num)=let a=x+1 in case (a,a+0) of (b,c) in (a,b);");
        d.inputs("-2147483648 2147483647").x.run(0, 1, 50);
        dueResults(d, "- 2147483647 -2147483648 - - - -");
        // one THING in both parts: as the one is worked out, so is the other
        d.inputs("1").x.run(1, 1, 50);
        dueResults(d, "- - - - - - -");
        d.inputs("1").x.run(1, 2, 50);
        dueResults(d, "- 2 2 - - - -");
    }

    private static void neededInputs() {
        Calls c = Calls.of("f(x:num,p:(num,num),y:num):num=if x then case p of (a,b) in 1 else g(y);"
                + "g(z:num):num=let w=z in w;h(x:num,y:num):(num,num)=(x,y);");
        Calls.dueIndex(() -> c.x.needed(0) ? 1 : 0);
        dueNeeded(c, "1 p u u u", 0, 1, true, true, false);
        dueNeeded(c, "0 u 1", 0, 1, true, false, true);
        dueNeeded(c, "u u 1", 0, 1, true, false, false);
        dueNeeded(c, "0 u u", 0, 1, true, false, true);
        dueNeeded(c, "1", 1, 1, true);
        dueNeeded(c, "1 2", 2, 1, false, false);
        dueNeeded(c, "1 2", 2, 2, false, true);
        dueNeeded(c, "1 2", 2, 3, true, false);
        // the parts of an INPUT are not the INPUT itself
        Calls d = Calls.of("f(p:(num,num),x:num):(num,num)=p;");
        dueNeeded(d, "p 1 2 3", 0, 4, true, false);
        d.inputs("p 1 2 3").x.run(0, 4, 0);
        Calls.dueYes(false, () -> d.x.needed(0));
        d.tape("f(p:num):num=1;").x.read();
        Calls.dueIndex(() -> d.x.needed(0) ? 1 : 0);
    }

    private static void dueNeeded(Calls c, String inputs, int f, int d, boolean... want) {
        c.inputs(inputs).x.run(f, d, 100);
        for (int param = 0; param < want.length; param++) {
            int p = param;
            Calls.dueYes(want[p], () -> c.x.needed(p));
        }
        for (int p : new int[] {-1, want.length, Integer.MAX_VALUE, Integer.MIN_VALUE}) {
            Calls.dueIndex(() -> c.x.needed(p) ? 1 : 0);
        }
    }

    private static void whatIsTold() {
        Calls c = Calls.of("f(x:num):num=let a=x+1 in case (a,x*2) of (b,c) in g(b,c+1);g(x:num,y:num):num=x;");
        Calls.dueText("1: 8 3 1 1 6 2", c.ran("1", 0, 1, 100));
        Calls.due(2, () -> c.x.result(0));
        for (int what : new int[] {-1, 7, Integer.MAX_VALUE, Integer.MIN_VALUE}) {
            Calls.dueIndex(() -> c.x.told(what));
        }
        c.inputs("1 2 3");
        Calls.due(3, () -> c.x.told(6));
        Calls.due(8, () -> c.x.told(0));
        Calls.dueArgument(() -> c.x.run(0, 1, 100));
        Calls.due(3, () -> c.x.told(6));
        Calls.due(2, () -> c.x.told(5));
        // the next run begins anew
        Calls d = Calls.of("f():num=let a=1 in 2;g():num=1;");
        Calls.dueText("1: 2 1 0 0 2 1", d.ran("", 0, 1, 100));
        Calls.dueText("1: 1 0 0 0 1 0", d.ran("", 1, 1, 100));
    }
}
