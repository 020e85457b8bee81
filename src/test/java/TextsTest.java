/** Promises 1 to 6: a new object, the tape, texts and their faults, what is told of a function. */
public final class TextsTest {
    public static void main(String[] args) {
        newObject();
        feeding();
        bytesInOrder();
        cutting();
        readingEmptiesTheTape();
        faultsLeaveAllElse();
        tokens();
        whatCanStand();
        namesToldAlready();
        tooMany();
        tooManyTokens();
        tooDeep();
        leastFaultOfAToken();
        namesNotThere();
        types();
        wantedOfPairs();
        orderOfTypeFaults();
        functions();
        Calls.end();
    }

    /** As dueFault, of what stands for E in a function of type num with the params x, p, q. */
    private static void dueFaultInE(int number, String e) {
        Calls.dueFault(number, "f(x:num,p:(num,num),q:((num,num),num)):num = " + e + "; g():num=1; h(a:num,b:(num,num)):(num,num)=b;");
    }

    private static void dueE(String e) {
        Calls.dueRead(3, "f(x:num,p:(num,num),q:((num,num),num)):num = " + e + "; g():num=1; h(a:num,b:(num,num)):(num,num)=b;");
    }

    private static void newObject() {
        StrictProofs x = new StrictProofs();
        Calls.due(-1, x::place);
        Calls.due(0, () -> x.cut(0));
        Calls.dueArgument(() -> x.cut(1));
        for (int what = 0; what < 7; what++) {
            int w = what;
            Calls.due(0, () -> x.told(w));
            Calls.dueIndex(() -> x.function(0, w));
            Calls.dueIndex(() -> x.result(w));
        }
        Calls.dueIndex(() -> x.needed(0) ? 1 : 0);
        Calls.dueState(x::rounds);
        Calls.dueState(x::check);
        Calls.dueState(() -> x.run(0, 1, 1));
        Calls.due(-2, x::read);
        Calls.due(0, x::place);
    }

    private static void feeding() {
        Calls c = new Calls();
        for (int n = 1; n <= 200; n++) {
            Calls.due(20 * n, () -> c.x.feed(538976288, 538976288, 538976288, 538976288, 538976288));
        }
        Calls.dueState(() -> c.x.feed(0, 0, 0, 0, 0));
        Calls.due(19, () -> c.x.cut(3981));
        Calls.dueState(() -> c.x.feed(0, 0, 0, 0, 0));
        Calls.due(1, () -> c.x.cut(3980));
        Calls.due(4000, () -> c.x.feed(538976288, 538976288, 538976288, 538976288, 538976288));
        Calls.dueState(() -> c.x.feed(0, 0, 0, 0, 0));
        Calls.due(-2, c.x::read);
        Calls.due(4000, c.x::place);
        Calls.due(20, () -> c.x.feed(0, 0, 0, 0, 0));
    }

    private static void bytesInOrder() {
        StrictProofs x = new StrictProofs();
        // f():n um=1 2345 6;__ ____
        Calls.due(20, () -> x.feed(0x6628293a, 0x6e756d3d, 0x31323334, 0x353b2020, 0x20202020));
        Calls.due(1, x::read);
        Calls.due(1, () -> x.run(0, 1, 9));
        Calls.due(12345, () -> x.result(0));
        // a byte above 127 is another byte, whichever of the five numbers has it
        for (int i = 0; i < 5; i++) {
            int[] n = {0x20202020, 0x20202020, 0x20202020, 0x20202020, 0x20202020};
            n[i] = 0x2020ff20;
            Calls.due(20, () -> x.feed(n[0], n[1], n[2], n[3], n[4]));
            Calls.due(-1, x::read);
            Calls.due(4 * i + 2, x::place);
        }
        Calls.due(20, () -> x.feed(0x80202020, 0, 0, 0, 0));
        Calls.due(-1, x::read);
        Calls.due(0, x::place);
    }

    private static void cutting() {
        Calls c = new Calls().tape("f():num=1;g():num=2;h():num=3;xxxxxxxxxx");
        Calls.dueArgument(() -> c.x.cut(-1));
        Calls.dueArgument(() -> c.x.cut(41));
        Calls.dueArgument(() -> c.x.cut(Integer.MIN_VALUE));
        Calls.dueArgument(() -> c.x.cut(Integer.MAX_VALUE));
        Calls.due(0, () -> c.x.cut(40));
        Calls.due(10, () -> c.x.cut(30));
        Calls.due(0, () -> c.x.cut(30));
        Calls.dueArgument(() -> c.x.cut(31));
        Calls.due(10, () -> c.x.cut(20));
        Calls.due(2, c.x::read);
        c.tape("f():num=1;");
        Calls.due(10, () -> c.x.cut(0));
        Calls.due(-2, c.x::read);
        Calls.due(0, c.x::place);
    }

    private static void readingEmptiesTheTape() {
        Calls c = new Calls().tape("f():num=1;");
        Calls.due(1, c.x::read);
        Calls.due(0, () -> c.x.cut(0));
        Calls.dueArgument(() -> c.x.cut(1));
        c.tape("f():num=");
        Calls.due(-2, c.x::read);
        Calls.due(8, c.x::place);
        Calls.dueArgument(() -> c.x.cut(1));
        c.tape("f():num=1;g():num=2;");
        Calls.due(2, c.x::read);
        Calls.due(-1, c.x::place);
    }

    private static void faultsLeaveAllElse() {
        Calls c = Calls.of("f(x:num,y:num):num=let z=x+1 in x;");
        c.x.rounds();
        c.x.plant(0, 1, 1, 1);
        c.inputs("4 u").x.run(0, 1, 50);
        c.inputs("p 1");
        for (String bad : new String[] {"", "#", "f(", "f(a:num,b:num,c:num):num=d;", "g():(num,num)=1;", "g():num=1;g():num=1;"}) {
            c.tape(bad);
            dueNegative(c);
            Calls.due(2, () -> c.x.function(0, 0));
            Calls.due(3, () -> c.x.function(0, 1));
            Calls.due(1, () -> c.x.asks(0, 1, 1));
            Calls.due(1, c.x::check);
            Calls.due(4, () -> c.x.result(0));
            Calls.dueYes(false, () -> c.x.needed(1));
            Calls.due(2, () -> c.x.told(0));
            Calls.due(1, () -> c.x.told(1));
            Calls.due(1, () -> c.x.told(5));
            Calls.due(2, () -> c.x.told(6));
        }
        // a text without one takes away the ROWS and what was run, not the INPUTS
        c.tape("f(x:num,y:num):num=x;");
        Calls.due(1, c.x::read);
        Calls.dueState(() -> c.x.asks(0, 1, 1));
        Calls.dueState(c.x::check);
        Calls.dueIndex(() -> c.x.result(0));
        Calls.dueIndex(() -> c.x.needed(0) ? 1 : 0);
        for (int what = 0; what < 6; what++) {
            int w = what;
            Calls.due(0, () -> c.x.told(w));
        }
        Calls.due(2, () -> c.x.told(6));
    }

    private static void dueNegative(Calls c) {
        int answer = c.x.read();
        if (answer >= 0) {
            Calls.tell("a text with a fault was read: " + answer);
        }
    }

    private static void tokens() {
        Calls.dueRead(1, "f():num=1;");
        Calls.dueRead(1, "  f\n(\n) :\nnum = 1 \n;\n ");
        Calls.dueRead(1, "abcdefgh():num=123456789;");
        Calls.dueRead(1, "a2345678(in2:num,lets:num):num=in2+lets;");
        Calls.dueRead(1, "z9(a:num):num=a==a;");
        Calls.dueFault(1, "|abcdefghi():num=1;");
        Calls.dueFault(1, "f():num=|1234567890;");
        Calls.dueFault(1, "f():num=|1a;");
        Calls.dueFault(1, "|1a():num=1;");
        Calls.dueFault(1, "f():num=|000000000000000000000000000000000000000000001;");
        Calls.dueRead(1, "f():num=000000000;");
        Calls.dueFault(1, "f():num=|A;");
        Calls.dueFault(1, "f(x|Y:num):num=1;");
        Calls.dueFault(1, "f(|_:num):num=1;");
        Calls.dueFault(1, "f()|\t:num=1;");
        Calls.dueFault(1, "f()|\r:num=1;");
        Calls.dueFault(1, "f():num=1|>2;");
        Calls.dueFault(1, "f():num=1|/2;");
        Calls.dueFault(1, "f():num=1|\u00e4;");
        Calls.dueFault(1, "f():num=1;|#");
        Calls.dueFault(1, "|\u0000f():num=1;");
        // signs are as long as can be
        Calls.dueFault(2, "f():num=1==|=2;");
        Calls.dueFault(2, "f():num|==1;");
        Calls.dueFault(2, "f():num= |=1;");
        Calls.dueFault(2, "f():num=1|= =2;");
        Calls.dueFault(2, "f():num=1<|=2;");
        // words are no names
        for (String word : "num if then else let in case of fail".split(" ")) {
            Calls.dueFault(2, "|" + word + "():num=1;");
            Calls.dueFault(2, "f(|" + word + ":num):num=1;");
            Calls.dueFault(2, "f():num=let |" + word + "=1 in 2;");
            Calls.dueRead(1, word + "s():num=1;");
        }
    }

    private static void whatCanStand() {
        Calls.dueFault(2, "|");
        Calls.dueFault(2, "  \n |");
        Calls.dueFault(2, "f|");
        Calls.dueFault(2, "f  |");
        Calls.dueFault(2, "f():num=1|");
        Calls.dueFault(2, "f():num=1  \n|");
        Calls.dueFault(2, "f():num=1;g|");
        Calls.dueFault(2, "f():num=1;|;");
        Calls.dueFault(2, "|;");
        Calls.dueFault(2, "|1():num=1;");
        Calls.dueFault(2, "f|:num=1;");
        Calls.dueFault(2, "f(|,):num=1;");
        Calls.dueFault(2, "f(a:num,|):num=1;");
        Calls.dueFault(2, "f(a|):num=1;");
        Calls.dueFault(2, "f(a:|a):num=1;");
        Calls.dueFault(2, "f(a:(num|)):num=1;");
        Calls.dueFault(2, "f(a:(num,num|,num)):num=1;");
        Calls.dueFault(2, "f(a:(|)):num=1;");
        Calls.dueFault(2, "f()|=1;");
        Calls.dueFault(2, "f():num|;");
        Calls.dueFault(2, "f():num=|;");
        Calls.dueFault(2, "f():num=|num;");
        Calls.dueFault(2, "f():num=(|);");
        Calls.dueFault(2, "f():num=(1,|);");
        Calls.dueFault(2, "f():num=(1,2|,3);");
        Calls.dueFault(2, "f():num=f(1,|);");
        Calls.dueFault(2, "f():num=f(|,1);");
        Calls.dueFault(2, "f():num=f(1|;");
        Calls.dueFault(2, "f():num=fail|;");
        Calls.dueFault(2, "f():num=fail |1;");
        Calls.dueFault(2, "f():num=1+2|+3;");
        Calls.dueFault(2, "f():num=1+2|-3;");
        Calls.dueFault(2, "f():num=1*2|*3;");
        Calls.dueFault(2, "f():num=1<2|<3;");
        Calls.dueFault(2, "f():num=1==2|<3;");
        Calls.dueFault(2, "f():num=|-1;");
        Calls.dueFault(2, "f():num=1+|;");
        Calls.dueFault(2, "f():num=1+|if 1 then 2 else 3;");
        Calls.dueFault(2, "f():num=1*|let a=1 in a;");
        Calls.dueFault(2, "f():num=1<|case (1,2) of (a,b) in a;");
        Calls.dueFault(2, "f():num=1 |1;");
        Calls.dueFault(2, "f():num=(1)|(2);");
        Calls.dueFault(2, "f():num=if 1 then 2|;");
        Calls.dueFault(2, "f():num=if 1 |else 2;");
        Calls.dueFault(2, "f():num=let a |in 1;");
        Calls.dueFault(2, "f():num=let |(a)=1 in 1;");
        Calls.dueFault(2, "f():num=let a=1|;");
        Calls.dueFault(2, "f():num=let a=|in 1;");
        Calls.dueFault(2, "f():num=case (1,2) |in a;");
        Calls.dueFault(2, "f():num=case (1,2) of |a in a;");
        Calls.dueFault(2, "f():num=case (1,2) of (a|) in a;");
        Calls.dueFault(2, "f():num=case (1,2) of (|1,a) in a;");
        Calls.dueFault(2, "f():num=case (1,2) of (a,b|,c) in a;");
        Calls.dueRead(1, "f():num=1*2+3*4<5*6-7*8;");
        Calls.dueRead(1, "f():num=(1+2)+(3+4);");
        Calls.dueRead(1, "f():num=((((1))))*(if 1 then 2 else 3);");
        Calls.dueRead(2, "f():num=g();g():num=f()+f();");
        Calls.dueRead(1, "f(a:num):num=if if a then 0 else 1 then let b=a in b else case (a,a) of (b,c) in b;");
    }

    private static void namesToldAlready() {
        Calls.dueFault(3, "f():num=1;|f():num=1;");
        Calls.dueFault(3, "f():num=1;g():num=1;|f(x:num):num=1;");
        Calls.dueFault(3, "f(a:num,|a:num):num=1;");
        Calls.dueFault(3, "f(a:num,b:num,c:num,|b:num):num=1;");
        Calls.dueFault(3, "f():num=case (1,2) of (a,|a) in a;");
        // each of these is told in another place
        Calls.dueRead(1, "f(f:num):num=f;");
        Calls.dueRead(2, "f(a:num):num=a;g(a:num):num=a;");
        Calls.dueRead(1, "f(a:num):num=let a=a in let a=a in a;");
        Calls.dueRead(1, "f(a:num):num=case (a,a) of (a,b) in case (a,b) of (b,a) in a+b;");
        Calls.dueRead(1, "f(a:num):num=let f=1 in f(f);");
    }

    private static void tooMany() {
        StringBuilder twelve = new StringBuilder();
        for (int i = 0; i < 12; i++) {
            twelve.append("f").append(i).append("():num=1;");
        }
        Calls.dueRead(12, twelve.toString());
        Calls.dueFault(6, twelve + "|g():num=1;");
        Calls.dueFault(3, twelve + "|f3():num=1;");
        Calls.dueFault(2, twelve + "|1");
        Calls.dueFault(1, twelve + "|#");
        Calls.dueFault(6, twelve + "|g");
        Calls.dueRead(1, "f(a:num,b:num,c:num,d:num):num=1;");
        Calls.dueFault(6, "f(a:num,b:num,c:num,d:num,|e:num):num=1;");
        Calls.dueFault(3, "f(a:num,b:num,c:num,d:num,|a:num):num=1;");
        Calls.dueFault(2, "f(a:num,b:num,c:num,d:num,|):num=1;");
        String twelveLets = "let a=1 in ".repeat(12);
        Calls.dueRead(1, "f(a:num,b:num,c:num,d:num):num=" + twelveLets + "a;");
        Calls.dueFault(6, "f(a:num,b:num,c:num,d:num):num=" + twelveLets + "let |e=1 in a;");
        Calls.dueFault(6, "f(a:num,b:num,c:num,d:num):num=" + twelveLets + "case (1,2) of (|e,e) in a;");
        String elevenLets = "let a=1 in ".repeat(11);
        Calls.dueFault(6, "f(a:num,b:num,c:num,d:num):num=" + elevenLets + "case (1,2) of (e,|g) in a;");
        Calls.dueFault(3, "f(a:num,b:num,c:num,d:num):num=" + elevenLets + "case (1,2) of (e,|e) in a;");
        Calls.dueRead(1, "f(a:num,b:num,c:num,d:num):num=" + elevenLets + "let e=1 in e;");
        // each function has its own sixteen
        Calls all = new Calls();
        for (int f = 0; f < 12; f++) {
            all.tape("f" + f + "(a:num,b:num,c:num,d:num):num=" + elevenLets + "let e=" + (f < 11 ? "1" : "b*11") + " in e;");
        }
        Calls.due(12, all.x::read);
        Calls.due(16, () -> all.x.function(11, 1));
        Calls.due(2, all.x::rounds);
        Calls.due(1, () -> all.x.asks(11, 1, 1));
        Calls.due(1, () -> all.inputs("u 5 u u").x.run(11, 1, 100));
        Calls.due(55, () -> all.x.result(0));
        Calls.dueRead(2, "f(a:num,b:num,c:num,d:num):num=" + twelveLets + "a;g(a:num,b:num,c:num,d:num):num=" + twelveLets + "a;");
    }

    /** A sum of so many ones: 4 n - 3 tokens. */
    private static String ones(int n) {
        return n == 1 ? "1" : "(" + ones(n / 2) + "+" + ones(n - n / 2) + ")";
    }

    private static void tooManyTokens() {
        String thousand = "f():num=" + ones(249) + ";";
        Calls.dueRead(1, thousand);
        Calls.dueFault(6, thousand + "|g():num=1;");
        Calls.dueFault(3, thousand + "|f():num=1;");
        Calls.dueFault(2, thousand + "|;");
        Calls.dueFault(1, thousand + "|#");
        Calls.dueFault(6, thousand + "|g");
        Calls.dueFault(6, "f():num=(" + ones(249) + "|);");
        Calls.dueFault(6, "f():num=" + ones(249) + "+|1;");
        Calls.dueFault(6, "f():num=" + ones(249) + "+|z;");
        Calls.dueFault(2, "f():num=" + ones(249) + "+|;");
        Calls.dueFault(1, "f():num=" + ones(249) + "+|#");
        Calls.dueFault(2, "f():num=" + ones(249) + "+|");
        Calls.dueFault(6, "f():num=(" + ones(249).replaceFirst("1", "z") + "|);");
        Calls.dueFault(6, thousand + "|g():num=1; # # #");
    }

    private static void tooDeep() {
        String open = "(".repeat(19);
        String close = ")".repeat(19);
        Calls.dueRead(1, "f():num=" + open + "1" + close + ";");
        Calls.dueFault(6, "f():num=" + open + "(|1)" + close + ";");
        Calls.dueFault(6, "f():num=" + open + "(|(1))" + close + ";");
        Calls.dueFault(2, "f():num=" + open + "(|)" + close + ";");
        Calls.dueFault(1, "f():num=" + open + "(|#)" + close + ";");
        Calls.dueFault(2, "f():num=" + open + "(|");
        Calls.dueRead(1, "f():num=" + open + "f()" + close + ";");
        Calls.dueRead(1, "f():num=" + open + "1*2+3*4<5*6+7*8" + close + ";");
        Calls.dueFault(6, "f():num=" + open + "f(|1)" + close + ";");
        Calls.dueFault(6, "f():num=" + open + "let a=|1 in a" + close + ";");
        Calls.dueFault(6, "f():num=" + open + "if |1 then 2 else 3" + close + ";");
        Calls.dueFault(6, "f():num=" + open + "case |p of (a,b) in 1" + close + ";");
        Calls.dueRead(1, "f():num=" + "if 1 then 1 else ".repeat(19) + "1;");
        Calls.dueFault(6, "f():num=" + "if 1 then 1 else ".repeat(19) + "if |1 then 1 else 1;");
        // as deep as EXPRESSIONS can be, through signs and calls
        String deep = "1<1+1*f(".repeat(19);
        Calls.dueRead(1, "f(a:num):num=" + deep + "1<1+1*a" + close + ";");
        Calls.dueFault(6, "f(a:num):num=" + deep + "1<1+1*f(|a)" + close + ";");
        Calls.dueRead(1, "f(a:((num,num),(num,num))):((num,num),(num,num))=a;");
        Calls.dueFault(6, "f():(num,(num,|(num,num)))=1;");
        Calls.dueFault(6, "f(a:((|(num,num),num),num)):num=1;");
        Calls.dueFault(6, "f():num=fail ((num,|(num,num)),num);");
        Calls.dueFault(2, "f():(num,(num,|1))=1;");
    }

    private static void leastFaultOfAToken() {
        // token by token: an earlier one's fault is told, whichever its number
        Calls.dueFault(6, "f(a:num,b:num,c:num,d:num,|e#");
        Calls.dueFault(3, "f(a:num,|a#");
        Calls.dueFault(2, "f(a |b#");
        // those of texts as wholes come behind all of these
        Calls.dueFault(2, "f():num=z+(1,2);g():num|;");
        Calls.dueFault(3, "f():num=z;|f():num=1;");
        Calls.dueFault(1, "f():num=f(1,2);|#");
    }

    private static void namesNotThere() {
        dueFaultInE(4, "|z");
        dueFaultInE(4, "x+|z");
        dueFaultInE(4, "|k()");
        dueFaultInE(4, "|k(z)");
        dueFaultInE(4, "|x(1)");
        dueFaultInE(4, "|g");
        dueFaultInE(4, "let y=|y in y");
        dueFaultInE(4, "(let y=1 in y)+|y");
        dueFaultInE(4, "case (1,|a) of (a,b) in a");
        dueFaultInE(4, "(case p of (a,b) in a)+|b");
        dueFaultInE(4, "if |z then w else v");
        dueFaultInE(4, "case h(1,p) of (a,b) in |c");
        dueFaultInE(4, "((|z))");
        dueE("let y=x in case p of (a,b) in a+(b*y)");
        Calls.dueFault(4, "f(x:num):num=x;g(y:num):num=|x;");
        Calls.dueFault(4, "f():num=1;g():num=|z;h():num=w;");
        // a name that was hidden stands again
        dueE("(let p=1 in p)+(case p of (a,b) in a)");
        dueE("(case q of (x,p) in p)+x");
    }

    private static void types() {
        dueFaultInE(5, "|p");
        dueFaultInE(5, "|(1,2)");
        dueFaultInE(5, "|fail (num,num)");
        dueFaultInE(5, "|h(1,p)");
        dueFaultInE(5, "x+|p");
        dueFaultInE(5, "|p+q");
        dueFaultInE(5, "1<|(1,2)");
        dueFaultInE(5, "(|p)*1");
        dueFaultInE(5, "((|p))");
        dueFaultInE(5, "if |p then 1 else 2");
        dueFaultInE(5, "if 1 then |p else 2");
        dueFaultInE(5, "if 1 then 2 else |p");
        dueFaultInE(5, "let a=p in |a");
        dueFaultInE(5, "case |x of (a,b) in a");
        dueFaultInE(5, "case |1+2 of (a,b) in a");
        dueFaultInE(5, "case q of (a,b) in |a");
        dueFaultInE(5, "|g(1)");
        dueFaultInE(5, "let a=|h(1) in 1");
        dueFaultInE(5, "let a=|h(z) in 1");
        dueFaultInE(5, "let a=h(|p,p) in 1");
        dueFaultInE(5, "let a=h(1,|2) in 1");
        dueFaultInE(5, "let a=h(1,|q) in 1");
        dueFaultInE(5, "let a=h(1,(1,|p)) in 1");
        dueFaultInE(5, "let a=h(1,(|p,1)) in 1");
        dueE("let a=h(1,(1,2)) in case h(x,a) of (c,d) in c");
        // a sign's first token is that of its left side, ( E )'s that of E
        Calls.dueFault(5, "f():(num,num)=|1+2;");
        Calls.dueFault(5, "f():(num,num)=(|1)+2;");
        Calls.dueFault(5, "f():(num,num)=((|1*2)+3)<4;");
        Calls.dueFault(5, "f():(num,num)=(if 1 then |(1,2) else (1,2))+(1,2);");
        Calls.dueFault(5, "f():(num,num)=(|if 1 then 1 else 2)+1;");
        Calls.dueFault(5, "f():(num,num)=|fail num;");
    }

    private static void wantedOfPairs() {
        // of an if's third the type of its second, where nothing, or any pair, is wanted
        dueFaultInE(5, "let a=if 1 then 2 else |p in 1");
        dueFaultInE(5, "let a=if 1 then p else |q in 1");
        dueFaultInE(5, "let a=if 1 then p else |2 in 1");
        dueE("let a=if 1 then p else (1,2) in 1");
        dueFaultInE(5, "case if 1 then p else |q of (a,b) in 1");
        dueFaultInE(5, "case if 1 then |x else p of (a,b) in 1");
        dueFaultInE(5, "case if 1 then p else |x of (a,b) in 1");
        dueFaultInE(5, "case if 1 then p else (|p,1) of (a,b) in 1");
        dueFaultInE(5, "case let a=1 in |a of (a,b) in 1");
        dueFaultInE(5, "case case q of (a,b) in |b of (a,b) in 1");
        dueE("case case q of (a,b) in a of (a,b) in a");
        dueE("case let a=p in a of (a,b) in a");
        // a pair's parts are looked at ahead of it
        dueFaultInE(4, "(1,|z)");
        dueFaultInE(5, "(1,|p+1)");
        dueFaultInE(5, "|(1,p)");
        // a pair in a pair in a pair
        dueFaultInE(5, "let a=|(q,1) in 1");
        dueFaultInE(5, "let a=|(1,q) in 1");
        dueFaultInE(5, "let a=|(((1,2),3),4) in 1");
        dueFaultInE(5, "let a=(1,|(2,(3,(4,5)))) in 1");
        dueFaultInE(5, "case |(1,(2,(3,4))) of (a,b) in a");
        dueFaultInE(5, "|(q,1)");
        dueE("let a=(p,p) in case a of (b,c) in 1");
        dueE("case ((1,2),(3,4)) of (b,c) in case b of (d,e) in d");
        Calls.dueRead(1, "f():((num,num),(num,num))=((1,2),(3,4));");
        Calls.dueFault(5, "f():((num,num),(num,num))=((1,2),(3,|(4,5)));");
        Calls.dueFault(5, "f():((num,num),(num,num))=((1,2),|3);");
        Calls.dueFault(5, "f():((num,num),num)=(|1,(2,3));");
        Calls.dueFault(5, "f():(num,(num,num))=(|(1,2),3);");
        Calls.dueRead(1, "f():(num,(num,num))=let a=1 in if a then (a,(a,a)) else fail (num,(num,num));");
    }

    private static void orderOfTypeFaults() {
        // an expression behind those in it, these from the left to the right
        dueFaultInE(4, "|z+p");
        dueFaultInE(5, "|p+z");
        dueFaultInE(5, "(x+|p)+z");
        dueFaultInE(4, "h(|z,1)");
        dueFaultInE(5, "h(1,|2)");
        dueFaultInE(5, "|h(1,p)+z");
        dueFaultInE(5, "if |p then z else w");
        dueFaultInE(4, "if 1 then |z else p");
        dueFaultInE(4, "let a=|z in p");
        dueFaultInE(5, "case |1 of (a,b) in z");
        dueFaultInE(4, "case |z of (a,b) in p");
        dueFaultInE(4, "|k(p+1)");
        dueFaultInE(5, "|g(z)");
        Calls.dueFault(5, "f():num=|(1,2);g():num=z;");
        Calls.dueFault(4, "f():num=|z;g():num=(1,2);");
        // a function may be used ahead of its text
        Calls.dueRead(2, "f():(num,num)=g(1);g(a:num):(num,num)=(a,a);");
        Calls.dueFault(5, "f():num=|g(1);g(a:num):(num,num)=(a,a);");
    }

    private static void functions() {
        Calls c = Calls.of("f():num=1;g(a:num,b:(num,num),c:((num,num),num),d:((num,num),(num,num))):(num,(num,num))="
                + "let a=1 in let a=2 in case b of (x,y) in (x,(y,a));h(e:(num,(num,num))):((num,num),(num,num))=h(e);");
        int[][] due = {{0, 0, 2}, {4, 8, 11, 2, 5, 11, 26}, {1, 1, 26, 11}};
        for (int f = 0; f < 3; f++) {
            for (int what = 0; what < 9; what++) {
                int g = f;
                int w = what;
                if (w < due[f].length) {
                    Calls.due(due[f][w], () -> c.x.function(g, w));
                } else {
                    Calls.dueIndex(() -> c.x.function(g, w));
                }
            }
        }
        Calls.dueIndex(() -> c.x.function(-1, 0));
        Calls.dueIndex(() -> c.x.function(3, 0));
        Calls.dueIndex(() -> c.x.function(0, -1));
        Calls.dueIndex(() -> c.x.function(1, Integer.MIN_VALUE));
        Calls.dueIndex(() -> c.x.function(1, Integer.MAX_VALUE));
        Calls.dueIndex(() -> c.x.function(Integer.MAX_VALUE, 0));
        c.tape("k(a:num):num=a;");
        c.x.read();
        Calls.due(1, () -> c.x.function(0, 0));
        Calls.dueIndex(() -> c.x.function(1, 0));
    }
}
