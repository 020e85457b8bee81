import java.util.ArrayList;
import java.util.List;

/** The boundaries of 1 TEXTS and of promises 2 to 6: at each the last that is allowed and the first that is not. */
public final class TextBoundsTest {
    private static final String[] TYPES = {"num", "(num,num)", "(num,(num,num))", "((num,num),num)", "((num,num),(num,num))"};
    private static final int[] PAIRS_WITHIN = {0, 1, 2, 2, 2};

    public static void main(String[] args) {
        roomOnTheTape();
        textsOfAllTheTape();
        cuts();
        cutsWithinTokens();
        lengthsOfNames();
        namesOfEightLetters();
        lengthsOfNumbers();
        valuesOfNumbers();
        nearlyWords();
        everyByteBehindAText();
        everyByteInAName();
        blanks();
        endsTooEarly();
        manyTokens();
        manyFunctions();
        manyParams();
        manyNames();
        namesSideBySide();
        nestedEs();
        nestedTypes();
        lesserFaultsAtTheBounds();
        countsOfArguments();
        typesWanted();
        pairsOfTypes();
        whatIsToldOfFunctions();
        placeOfTheLatestRead();
        manyReads();
        lastPromisedCall();
        Calls.end();
    }

    private static final int BLANKS = 0x20202020;

    private static Calls fullTape() {
        Calls c = new Calls();
        for (int n = 1; n <= 200; n++) {
            int bytes = 20 * n;
            Calls.due(bytes, () -> c.x.feed(BLANKS, BLANKS, BLANKS, BLANKS, BLANKS));
        }
        return c;
    }

    private static void roomOnTheTape() {
        for (int size = 3978; size <= 4000; size++) {
            int kept = size;
            Calls c = fullTape();
            Calls.due(4000 - kept, () -> c.x.cut(kept));
            if (kept <= 3980) {
                Calls.due(kept + 20, () -> c.x.feed(BLANKS, BLANKS, BLANKS, BLANKS, BLANKS));
            } else {
                // were its bytes there, the first of them would be the fault
                Calls.dueState(() -> c.x.feed(0, 0, 0, 0, 0));
            }
            Calls.due(-2, c.x::read);
            Calls.due(kept <= 3980 ? kept + 20 : kept, c.x::place);
            Calls.due(20, () -> c.x.feed(0, 0, 0, 0, 0));
        }
    }

    private static void textsOfAllTheTape() {
        String start = "f():num=7" + " ".repeat(3990);
        Calls.dueRead(1, start + ";");
        Calls.dueFault(2, start + "|)");
        Calls.dueFault(1, start + "|#");
        Calls.dueFault(2, start + " |");
        Calls.dueFault(2, "f():num=" + " ".repeat(3991) + "7|");
        Calls.dueFault(2, "f():num=" + " ".repeat(3991) + "z|");
        Calls.dueFault(2, "f():num" + " ".repeat(3992) + "=|");
        Calls.dueFault(1, "f():num=" + " ".repeat(3982) + "|1234567890");
        Calls.dueFault(2, "f():num=" + " ".repeat(3983) + "123456789|");
        Calls.dueFault(2, start + "|");
    }

    private static void cuts() {
        for (int size : new int[] {0, 20, 40}) {
            for (int n : new int[] {Integer.MIN_VALUE, -1, 0, 1, 19, 20, 21, 39, 40, 41, Integer.MAX_VALUE}) {
                Calls c = new Calls().tape(" ".repeat(size));
                boolean allowed = n >= 0 && n <= size;
                if (allowed) {
                    Calls.due(size - n, () -> c.x.cut(n));
                } else {
                    Calls.dueArgument(() -> c.x.cut(n));
                }
                Calls.due(-2, c.x::read);
                Calls.due(allowed ? n : size, c.x::place);
            }
        }
    }

    private static void dueCut(int answer, int place, String text, int n) {
        Calls c = new Calls().tape(text);
        Calls.due(text.length() - n, () -> c.x.cut(n));
        Calls.due(answer, c.x::read);
        Calls.due(place, c.x::place);
    }

    /** The bytes that went are no part of the last token. */
    private static void cutsWithinTokens() {
        dueCut(-2, 8, "abcdefghijklmnopqrst", 8);
        dueCut(-1, 0, "abcdefghijklmnopqrst", 9);
        dueCut(-2, 17, "f():num=12345678901;", 17);
        dueCut(-1, 8, "f():num=12345678901;", 18);
        dueCut(-2, 8, "f():num==1;g():num=2", 8);
        dueCut(-2, 7, "f():num==1;g():num=2", 9);
        dueCut(-2, 4, "f():num=1;g():num=2;", 6);
        dueCut(-2, 7, "f():num=1;g():num=2;", 7);
        dueCut(1, -1, "f():num=1;g():num=2;", 10);
        dueCut(-2, 11, "f():num=1;g():num=2;", 11);
        dueCut(2, -1, "f():num=1;g():num=2;", 20);
        // what is fed next stands right behind what was kept
        Calls c = new Calls().tape("f():num=1234567890;;");
        c.x.cut(12);
        c.tape("56;");
        Calls.due(1, c.x::read);
        Calls.due(1, () -> c.x.run(0, 1, 1));
        Calls.due(123456, () -> c.x.result(0));
    }

    /** A name in each of the places that tell one; it is too long from nine on. */
    private static void dueName(String name, int length) {
        String[] texts = {
            "|N():num=1;", "f(|N:num):num=N;", "f(b0:num,|N:num):num=N;", "f():num=let |N=1 in N;",
            "f():num=case (1,2) of (|N,b0) in N;", "f():num=case (1,2) of (b0,|N) in N;",
        };
        for (String text : texts) {
            String whole = text.replace("N", name);
            if (length <= 8) {
                Calls.dueRead(1, whole.replace("|", ""));
            } else {
                Calls.dueFault(1, whole);
            }
        }
    }

    private static void lengthsOfNames() {
        for (int length = 1; length <= 20; length++) {
            dueName("zyxwvutsrqponmlkjihgfedcba".substring(0, length), length);
            dueName("a" + "0".repeat(length - 1), length);
            dueName("z" + "9".repeat(length - 1), length);
        }
        Calls.dueFault(1, "f():num=|abcdefghi;");
        Calls.dueFault(4, "f():num=|abcdefgh;");
        Calls.dueFault(1, "f():num=|abcdefghi();");
        Calls.dueFault(4, "f():num=|abcdefgh();");
        // a digit ahead makes it no name, however short
        Calls.dueFault(1, "|0a():num=1;");
        Calls.dueFault(1, "|9z():num=1;");
        Calls.dueFault(2, "|9():num=1;");
    }

    private static void namesOfEightLetters() {
        String name = "abcdefgh";
        for (int at = 0; at < 8; at++) {
            String other = name.substring(0, at) + "z" + name.substring(at + 1);
            Calls.dueRead(2, name + "():num=1;" + other + "():num=1;");
            Calls.dueRead(1, "f(" + name + ":num," + other + ":num):num=" + other + ";");
            Calls.dueFault(4, "f(" + name + ":num):num=|" + other + ";");
            Calls.dueRead(2, name + "():num=1;" + name.substring(0, at) + "z():num=1;");
        }
        Calls.dueFault(3, name + "():num=1;|" + name + "():num=1;");
        Calls.dueFault(3, "f(" + name + ":num,|" + name + ":num):num=1;");
        Calls.dueFault(3, "f():num=case (1,2) of (" + name + ",|" + name + ") in 1;");
    }

    private static void lengthsOfNumbers() {
        for (int length = 1; length <= 20; length++) {
            for (String digit : new String[] {"0", "1", "9"}) {
                if (length <= 9) {
                    Calls.dueRead(1, "f():num=" + digit.repeat(length) + ";");
                } else {
                    Calls.dueFault(1, "f():num=|" + digit.repeat(length) + ";");
                }
            }
        }
        Calls.dueFault(1, "f():num=|0000000001;");
        Calls.dueFault(1, "f():num=|12345678a;");
        Calls.dueFault(1, "f():num=|1z;");
    }

    private static void dueValue(int want, String number) {
        Calls c = Calls.of("f():num=" + number + ";");
        Calls.due(1, () -> c.x.run(0, 1, 1));
        Calls.due(want, () -> c.x.result(0));
    }

    private static void valuesOfNumbers() {
        dueValue(0, "0");
        dueValue(9, "9");
        dueValue(10, "10");
        dueValue(0, "000000000");
        dueValue(1, "000000001");
        dueValue(100000000, "100000000");
        dueValue(999999999, "999999999");
        dueValue(123456789, "123456789");
    }

    private static void nearlyWords() {
        for (String word : "num if then else let in case of fail".split(" ")) {
            String[] names = {word.substring(1), word.substring(0, word.length() - 1), word + "a", word + "0", "a" + word, word + word};
            for (String name : names) {
                Calls.dueRead(1, name + "(" + name + ":num):num=let " + name + "=" + name + "(" + name + ") in " + name + ";");
            }
            Calls.dueFault(2, "|" + word + "():num=1;");
            Calls.dueFault(2, "f(|" + word + ":num):num=1;");
            Calls.dueFault(2, "f():num=let |" + word + "=1 in 1;");
            Calls.dueFault(2, "f():num=case (1,2) of (|" + word + ",b) in 1;");
            Calls.dueFault(2, "f():num=case (1,2) of (b,|" + word + ") in 1;");
        }
    }

    private static boolean isBlank(int b) {
        return b == 32 || b == 10;
    }

    private static boolean isSign(int b) {
        return "=(),;:+-*<".indexOf(b) >= 0;
    }

    private static boolean isLetter(int b) {
        return b >= 97 && b <= 122;
    }

    private static boolean isDigit(int b) {
        return b >= 48 && b <= 57;
    }

    private static void everyByteBehindAText() {
        for (int b = 0; b < 256; b++) {
            String text = "f1():num=1;" + (char) b;
            if (isBlank(b)) {
                Calls.dueRead(1, text);
            } else if (isLetter(b)) {
                Calls.dueOfText(-2, 12, text);
            } else {
                Calls.dueOfText(isDigit(b) || isSign(b) ? -2 : -1, 11, text);
            }
        }
    }

    private static void everyByteInAName() {
        for (int b = 0; b < 256; b++) {
            String text = "f" + (char) b + "():num=1;";
            if (isBlank(b) || isLetter(b) || isDigit(b)) {
                Calls.dueRead(1, text);
            } else if (b == '(') {
                Calls.dueOfText(-2, 2, text);
            } else {
                Calls.dueOfText(isSign(b) ? -2 : -1, 1, text);
            }
        }
    }

    private static void blanks() {
        Calls.dueRead(1, "f(p:(num,num)):num=case(p)of(a,b)in(if(a)then(b)else(1<2*3-4));");
        Calls.dueRead(1, "\n \nf\n\n(  )\n: num\n=\n \n1\n;\n\n  ");
        Calls.dueFault(1, "f():num=let a=|1in a;");
        Calls.dueFault(2, "f():num=leta|=1 in a;");
        Calls.dueFault(2, "f |f():num=1;");
        Calls.dueFault(2, "f():|n um=1;");
        Calls.dueFault(2, "f():num=1 |2;");
        Calls.dueRead(1, "f():num=1==2;");
        Calls.dueFault(2, "f():num=1|= =2;");
        Calls.dueFault(2, "f():num=1==|=2;");
        Calls.dueFault(2, "f():num=1==|==2;");
        Calls.dueFault(2, "f():num|==1;");
    }

    /** Its tokens stand apart, so that it can be cut behind each. */
    private static final String ALL_FORMS = "h ( x : num , y : ( num , num ) ) : num = x - ( 1 == 2 ) ; "
            + "g ( a : num , b : ( num , num ) ) : num = let c = a + 1 in case b of ( d , e ) in "
            + "if c < d then e * 2 else h ( fail num , ( b ) ) ;";

    private static void endsTooEarly() {
        String[] tokens = ALL_FORMS.split(" ");
        StringBuilder text = new StringBuilder();
        int functions = 0;
        for (String token : tokens) {
            if (functions == 0 || !text.toString().endsWith("; ")) {
                Calls.dueFault(2, text + "|");
                Calls.dueFault(2, text + "\n  |");
            } else {
                Calls.dueRead(functions, text.toString());
            }
            text.append(token).append(' ');
            functions += token.equals(";") ? 1 : 0;
        }
        Calls.dueRead(2, text.toString());
    }

    /** A sum of such leaves, two sides each. */
    private static String sum(List<String> leaves) {
        int n = leaves.size();
        return n == 1 ? leaves.get(0) : "(" + sum(leaves.subList(0, n / 2)) + "+" + sum(leaves.subList(n / 2, n)) + ")";
    }

    /** A function of so many tokens: seven, and n leaves of one token or two, and three more for each but one. */
    private static String filler(int tokens) {
        int n = (tokens - 4) / 4;
        List<String> leaves = new ArrayList<>();
        for (int i = 0; i < n; i++) {
            leaves.add(i < tokens % 4 ? "fail num" : "1");
        }
        return "f():num=" + sum(leaves) + "; ";
    }

    private static void manyTokens() {
        String[] tail = ALL_FORMS.split(" ");
        Calls.dueRead(1, filler(999));
        Calls.dueRead(1, filler(1000));
        Calls.dueRead(3, filler(1000 - tail.length) + ALL_FORMS);
        // whichever token is the 1001st, it is the fault, and those behind it are not looked at
        for (int j = 0; j < tail.length; j++) {
            StringBuilder text = new StringBuilder(filler(1000 - j));
            for (int i = 0; i < tail.length; i++) {
                text.append(i == j ? "|" : "").append(tail[i]).append(' ');
            }
            Calls.dueFault(6, text.toString());
            Calls.dueFault(6, text + "#");
            int at = text.indexOf("|");
            // one token less is there, and the text ends; one that is none is the 1001st; one that can't stand
            if (j > 0 && !tail[j - 1].equals(";")) {
                Calls.dueFault(2, text.substring(0, at) + "|");
                Calls.dueFault(2, text.substring(0, at) + "|=" + (tail[j].equals("=") ? "=" : ""));
            }
            Calls.dueFault(1, text.substring(0, at) + "|# 1");
        }
        Calls.dueFault(3, filler(1000) + "|f():num=1;");
        Calls.dueFault(6, filler(1000) + "|e():num=1;");
        Calls.dueFault(3, filler(994) + "g(a:num,|a:num):num=1;");
        Calls.dueFault(6, filler(994) + "g(a:num,|b:num):num=1;");
        Calls.dueFault(3, filler(984) + "g():num=case (1,2) of (a,|a) in 1;");
        Calls.dueFault(6, filler(984) + "g():num=case (1,2) of (a,|b) in 1;");
    }

    private static void manyFunctions() {
        StringBuilder text = new StringBuilder();
        for (int n = 1; n <= 12; n++) {
            text.append("f").append(n).append("():num=").append(n).append(";");
            Calls.dueRead(n, text.toString());
        }
        Calls.dueFault(6, text + "|f13():num=13;");
        Calls.dueFault(6, text + "|f13():num=13;f14():num=14;");
        Calls c = Calls.of(text.toString());
        Calls.due(1, () -> c.x.run(11, 1, 1));
        Calls.due(12, () -> c.x.result(0));
        Calls.dueIndex(() -> c.x.run(12, 1, 1));
    }

    private static void manyParams() {
        for (String type : TYPES) {
            StringBuilder params = new StringBuilder();
            for (int n = 0; n <= 4; n++) {
                Calls.dueRead(1, "f(" + params + "):num=1;");
                params.append(n == 0 ? "" : ",").append(n == 4 ? "|" : "").append("p").append(n).append(":").append(type);
            }
            Calls.dueFault(6, "f(" + params + "):num=1;");
            Calls.dueFault(6, "f(" + params + ",p5:num):num=1;");
            Calls.dueFault(6, "g():num=1;f(" + params);
        }
    }

    /** Params, then lets, then cases, the last E of each being the next one; X is the last of all. */
    private static String withNames(int params, int lets, int cases) {
        StringBuilder text = new StringBuilder("f(");
        for (int p = 0; p < params; p++) {
            text.append(p == 0 ? "p" : ",p").append(p).append(":num");
        }
        return text + "):num=" + "let a=1 in ".repeat(lets) + "case (1,2) of (a,b) in ".repeat(cases) + "X;";
    }

    private static void manyNames() {
        for (int params = 0; params <= 4; params++) {
            for (int cases = 0; 2 * cases + params <= 15; cases++) {
                int lets = 16 - params - 2 * cases;
                String sixteen = withNames(params, lets, cases);
                Calls c = Calls.of(sixteen.replace("X", "1"));
                Calls.due(16, () -> c.x.function(0, 1));
                Calls.dueFault(6, sixteen.replace("X", "let |c=1 in 1"));
                Calls.dueFault(6, sixteen.replace("X", "case (1,2) of (|c,d) in 1"));
                String fifteen = withNames(params, lets - 1, cases);
                Calls.dueRead(1, fifteen.replace("X", "let c=1 in 1"));
                Calls.dueFault(6, fifteen.replace("X", "case (1,2) of (c,|d) in 1"));
                Calls.dueFault(6, fifteen.replace("X", "let c=1 in let |d=1 in 1"));
            }
        }
    }

    private static void namesSideBySide() {
        List<String> lets = new ArrayList<>();
        for (int n = 0; n < 16; n++) {
            lets.add("(let a=1 in a)");
        }
        Calls.dueRead(1, "f():num=" + sum(lets) + ";");
        Calls.dueFault(6, "f():num=" + sum(lets) + "+(let |a=1 in a);");
        // each function counts its own ones
        Calls.dueRead(2, "f():num=" + sum(lets) + ";g():num=" + sum(lets) + ";");
        Calls.dueFault(6, "f():num=" + sum(lets) + ";g():num=" + sum(lets) + "+(let |a=1 in a);");
        Calls.dueFault(6, "f():num=" + sum(lets.subList(0, 12)) + ";g(a:num,b:num,c:num,d:num):num="
                + sum(lets.subList(0, 12)) + "+(let |a=1 in a);");
    }

    /** X stands for an E that is one deeper than the form itself. */
    private static void dueNested(String type, String form, String x) {
        String[] parts = {"f(p:(num,num)):" + type + "=", ";g(a:num,b:num,c:num,d:num):num=1;"};
        for (int outer = 0; outer <= 18; outer++) {
            Calls.dueRead(2, parts[0] + "(".repeat(outer) + form.replace("X", x) + ")".repeat(outer) + parts[1]);
        }
        String deep = parts[0] + "(".repeat(18) + form.replace("X", "(|" + x + ")") + ")".repeat(18) + parts[1];
        Calls.dueFault(6, deep);
        Calls.dueRead(2, parts[0] + "(".repeat(17) + form.replace("X", "(" + x + ")") + ")".repeat(17) + parts[1]);
        Calls.dueFault(2, parts[0] + "(".repeat(18) + form.substring(0, form.indexOf('X')) + "(|;");
        Calls.dueFault(1, parts[0] + "(".repeat(18) + form.substring(0, form.indexOf('X')) + "(|#");
        Calls.dueFault(2, parts[0] + "(".repeat(18) + form.substring(0, form.indexOf('X')) + "(|");
    }

    private static void nestedEs() {
        dueNested("num", "(X)", "1");
        dueNested("num", "1<2-3*(X)", "1");
        dueNested("num", "let a=X in 1", "1");
        dueNested("num", "let a=1 in X", "1");
        dueNested("num", "case X of (a,b) in 1", "p");
        dueNested("num", "case p of (a,b) in X", "1");
        dueNested("num", "if X then 1 else 1", "1");
        dueNested("num", "if 1 then X else 1", "1");
        dueNested("num", "if 1 then 1 else X", "1");
        dueNested("num", "g(X,1,1,1)", "1");
        dueNested("num", "g(1,1,1,X)", "1");
        dueNested("(num,num)", "(X,1)", "1");
        dueNested("(num,num)", "(1,X)", "1");
        // what begins an E that is too deep is its fault, whatever it is
        for (String first : new String[] {"1", "a", "f()", "fail num", "(1)", "(1,2)", "let a=1 in 1", "case p of (a,b) in 1", "if 1 then 1 else 1"}) {
            Calls.dueFault(6, "f():num=" + "(".repeat(20) + "|" + first);
            Calls.dueFault(2, "f():num=" + "(".repeat(20) + "|=" + first);
        }
        // the sides of a sign are no E
        Calls.dueRead(1, "f():num=" + "(".repeat(19) + "1*2+3*4<5*6-7*8" + ")".repeat(19) + ";");
        Calls.dueRead(1, "f():num=1*2+3*4<" + "(".repeat(19) + "5*6-7*8" + ")".repeat(19) + ";");
        // a type's brackets are no E
        Calls.dueRead(1, "f():((num,num),num)=" + "(".repeat(19) + "fail ((num,num),num)" + ")".repeat(19) + ";");
    }

    private static void nestedTypes() {
        String[] forms = {"f(a:T):num=1;", "f(a:num,b:T):num=1;", "f():T=fail T;", "f():num=let a=fail T in 1;"};
        String[] deep = {"((|(num,num),num),num)", "((num,|(num,num)),num)", "(num,(|(num,num),num))", "(num,(num,|(num,num)))",
            "((num,num),(|(num,num),num))", "((num,num),(num,|(num,num)))"};
        for (String form : forms) {
            for (String type : TYPES) {
                Calls.dueRead(1, form.replace("T", type));
            }
            for (String type : deep) {
                String upTo = form.substring(0, form.indexOf('T')) + type.substring(0, type.indexOf('|'));
                Calls.dueFault(6, form.substring(0, form.indexOf('T')) + type + form.substring(form.indexOf('T') + 1).replace("T", "num"));
                Calls.dueFault(6, upTo + "|(");
                Calls.dueFault(2, upTo + "|)");
                Calls.dueFault(1, upTo + "|#");
                Calls.dueFault(2, upTo + "|");
            }
        }
    }

    private static void lesserFaultsAtTheBounds() {
        StringBuilder twelve = new StringBuilder();
        for (int n = 0; n < 12; n++) {
            twelve.append("f").append(n).append("():num=1;");
        }
        for (int n = 0; n < 12; n++) {
            Calls.dueFault(3, twelve + "|f" + n + "():num=1;");
        }
        Calls.dueFault(2, twelve + "|num");
        Calls.dueFault(2, twelve + "|(");
        Calls.dueFault(1, twelve + "|abcdefghi");
        String four = "f(a:num,b:num,c:num,d:num,";
        for (String name : new String[] {"a", "b", "c", "d"}) {
            Calls.dueFault(3, four + "|" + name + ":num):num=1;");
        }
        Calls.dueFault(2, four + "|num:num):num=1;");
        Calls.dueFault(2, four + "|1:num):num=1;");
        Calls.dueFault(1, four + "|1a:num):num=1;");
        Calls.dueFault(2, four + "|");
        String sixteen = withNames(4, 12, 0);
        Calls.dueFault(2, sixteen.replace("X", "let |in=1 in 1"));
        Calls.dueFault(1, sixteen.replace("X", "let |A=1 in 1"));
        Calls.dueFault(2, sixteen.replace("X;", "let |"));
        String fifteen = withNames(4, 11, 0);
        Calls.dueFault(3, fifteen.replace("X", "case (1,2) of (c,|c) in 1"));
        Calls.dueFault(2, fifteen.replace("X", "case (1,2) of (c,|) in 1"));
        Calls.dueFault(1, fifteen.replace("X", "case (1,2) of (c,|?) in 1"));
        // a later token's lesser fault is not told, nor any of 4 and 5 in an earlier function
        Calls.dueFault(6, "g():num=z;h():num=(1,2);" + four + "|e:num,a#");
        Calls.dueFault(6, "g():num=z;f():(num,(num,|(num,1)))=1;");
        Calls.dueFault(2, "g():num=z+(1,2);f|;");
        Calls.dueFault(3, "g():num=z+(1,2);|g():num=1;");
        Calls.dueFault(1, "g():num=z+(1,2);|?");
    }

    private static void countsOfArguments() {
        for (int params = 0; params <= 4; params++) {
            String all = "a:num,b:num,c:num,d:num".substring(0, Math.max(0, 6 * params - 1));
            for (int arguments = 0; arguments <= 6; arguments++) {
                String given = "1,1,1,1,1,1".substring(0, Math.max(0, 2 * arguments - 1));
                String text = "f():num=2+|g(" + given + ");g(" + all + "):num=1;";
                if (arguments == params) {
                    Calls.dueRead(2, text.replace("|", ""));
                } else {
                    Calls.dueFault(5, text);
                    // ahead of what its arguments have
                    Calls.dueFault(5, text.replace("1,1", "z,(1,2)").replace("(1)", "(z)"));
                }
            }
        }
    }

    private static void dueIf(boolean fits, String text) {
        if (fits) {
            Calls.dueRead(2, text.replace("|", ""));
        } else {
            Calls.dueFault(5, text);
        }
    }

    private static void typesWanted() {
        for (int a = 0; a < TYPES.length; a++) {
            for (int b = 0; b < TYPES.length; b++) {
                String of = "(a:" + TYPES[a] + ",b:" + TYPES[b] + ")";
                String more = ";g(a:" + TYPES[a] + "):num=1;";
                dueIf(a == b, "f" + of + ":" + TYPES[a] + "=|b" + more);
                dueIf(a == b, "f" + of + ":" + TYPES[a] + "=let c=b in |c" + more);
                dueIf(a == b, "f" + of + ":" + TYPES[a] + "=if 1 then a else |b" + more);
                dueIf(a == b, "f" + of + ":" + TYPES[a] + "=if 1 then |b else a" + more);
                dueIf(a == b, "f" + of + ":" + TYPES[a] + "=|fail " + TYPES[b] + more);
                dueIf(a == b, "f" + of + ":" + TYPES[a] + "=case (1,2) of (c,d) in |b" + more);
                dueIf(a == b, "f" + of + ":num=g(|b)" + more);
                dueIf(a == b, "f" + of + ":num=let c=if 1 then a else |b in 1" + more);
                if (a != 0) {
                    dueIf(a == b, "f" + of + ":num=case if 1 then a else |b of (c,d) in 1" + more);
                }
                dueIf(b == 0, "f" + of + ":num=1+|b" + more);
                dueIf(b == 0, "f" + of + ":num=|b==1" + more);
                dueIf(b == 0, "f" + of + ":num=if |b then 1 else 2" + more);
                dueIf(b != 0, "f" + of + ":num=case |b of (c,d) in 1" + more);
            }
        }
    }

    private static void pairsOfTypes() {
        for (int a = 0; a < TYPES.length; a++) {
            for (int b = 0; b < TYPES.length; b++) {
                String of = "f(a:" + TYPES[a] + ",b:" + TYPES[b] + "):num=";
                boolean fits = PAIRS_WITHIN[a] < 2 && PAIRS_WITHIN[b] < 2;
                dueIf(fits, of + "let c=|(a,b) in 1;g():num=1;");
                dueIf(fits, of + "case |(a,b) of (c,d) in 1;g():num=1;");
                dueIf(fits, of + "case if 1 then |(fail " + TYPES[a] + ",b) else (a,b) of (c,d) in 1;g():num=1;");
                if (fits) {
                    Calls.dueRead(1, "f(a:" + TYPES[a] + ",b:" + TYPES[b] + "):(" + TYPES[a] + "," + TYPES[b] + ")=(a,b);");
                }
            }
        }
        // where a pair's type is told, a part's fault comes ahead
        Calls.dueFault(5, "f(q:((num,num),num)):((num,num),num)=(|q,1);");
        Calls.dueFault(5, "f(q:((num,num),num)):(num,num)=(1,|q);");
        // where num is wanted nothing is wanted of the parts
        Calls.dueFault(5, "f(q:((num,num),num)):num=|(q,1);");
        Calls.dueFault(5, "f(p:(num,num)):num=|(p,1);");
    }

    private static void whatIsToldOfFunctions() {
        int[] demands = {2, 5, 11, 11, 26};
        for (int params = 0; params <= 4; params++) {
            for (int t = 0; t < TYPES.length; t++) {
                StringBuilder all = new StringBuilder();
                for (int p = 0; p < params; p++) {
                    all.append(p == 0 ? "" : ",").append("p").append(p).append(":").append(TYPES[(t + p) % 5]);
                }
                Calls c = Calls.of("e():num=1;f(" + all + "):" + TYPES[t] + "=fail " + TYPES[t] + ";");
                int answer = demands[t];
                int count = params;
                Calls.dueIndex(() -> c.x.function(1, -1));
                Calls.due(count, () -> c.x.function(1, 0));
                Calls.due(count, () -> c.x.function(1, 1));
                Calls.due(answer, () -> c.x.function(1, 2));
                for (int p = 0; p < params; p++) {
                    int what = 3 + p;
                    int want = demands[(t + p) % 5];
                    Calls.due(want, () -> c.x.function(1, what));
                }
                Calls.dueIndex(() -> c.x.function(1, 3 + count));
                Calls.dueIndex(() -> c.x.function(0, 3));
                Calls.dueIndex(() -> c.x.function(2, 0));
                Calls.dueIndex(() -> c.x.function(-1, 0));
            }
        }
    }

    private static void placeOfTheLatestRead() {
        Calls c = new Calls();
        Calls.due(-1, c.x::place);
        c.tape("  z");
        Calls.due(-1, c.x::place);
        Calls.due(-2, c.x::read);
        Calls.due(3, c.x::place);
        c.tape("f():num=1;");
        Calls.due(3, c.x::place);
        Calls.due(1, c.x::read);
        Calls.due(-1, c.x::place);
        // the tape is empty now: the program stays
        Calls.due(-2, c.x::read);
        Calls.due(0, c.x::place);
        Calls.due(2, () -> c.x.function(0, 2));
        Calls.due(1, () -> c.x.run(0, 1, 1));
        Calls.due(0, c.x::place);
    }

    /** Each text has all the room there is, whatever was read before. */
    private static void manyReads() {
        Calls c = new Calls();
        for (int n = 0; n < 6; n++) {
            c.tape(filler(1000));
            Calls.due(1, c.x::read);
            c.tape("f():num=(1,2);");
            Calls.due(-5, c.x::read);
        }
        Calls.due(1, () -> c.x.run(0, 1, 1000));
        Calls.due(249, () -> c.x.result(0));
        Calls.due(497, () -> c.x.told(0));
    }

    /** The 512th call answers as the first did. */
    private static void lastPromisedCall() {
        StrictProofs x = new StrictProofs();
        for (int n = 0; n < 127; n++) {
            // "f():num=7;" and blanks
            Calls.due(20, () -> x.feed(0x6628293a, 0x6e756d3d, 0x373b2020, BLANKS, BLANKS));
            Calls.due(1, x::read);
            Calls.due(1, () -> x.run(0, 1, 1));
            Calls.due(7, () -> x.result(0));
        }
        Calls.due(2, x::rounds);
        Calls.due(-1, x::check);
        Calls.due(1, () -> x.told(0));
        Calls.due(7, () -> x.result(0));
    }
}
