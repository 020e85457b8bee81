import java.util.Arrays;
import java.util.Random;
import java.util.regex.Matcher;
import java.util.regex.Pattern;

/**
 * Made-up texts, with and without FAULTS, and made-up calls, the same ones each time: the class must answer each call as
 * the Model does.
 */
public final class ModelTest {
    private static final Pattern TOKEN = Pattern.compile("[a-z0-9]+|==|[^ \n]");
    private static final String[] TOKENS = {
        "num", "if", "then", "else", "let", "in", "case", "of", "fail", "==", "=", "(", ")", ",", ";", ":", "+", "-",
        "*", "<", "f0", "f1", "f9", "p0", "p1", "n4", "n5", "zz", "abcdefgh", "abcdefghi", "0", "7", "123456789",
        "1234567890", "1a", "Z", ">", "\t", "\n"
    };
    private static final String ATOM = "[pn]?[0-9]+";
    // What can stand where a NAME or NUMBER stands; some have a FAULT of their own.
    private static final String[] ATOMS = {
        "p0", "p1", "p2", "n0", "n3", "n4", "zz", "7", "(1,2)", "(p0,p1)", "((1,2),(3,4))", "(1,(2,3))", "(((1,2),3),4)",
        "(1,fail((num,num),num))", "fail num", "fail (num,num)", "fail((num,num),(num,num))", "q0(1)", "f0()", "f1(1)",
        "f0(p0,zz)", "f1(1,2)", "f0(p0,1,fail num)", "(let a=(1,2)in a)", "(if p0 then p1 else zz)",
        "(case p0 of(a,b)in a)", "(if 1 then(1,2)else 3)", "(let n3=n3 in p0)", "(1<2)"
    };
    private static final String[] AROUND = {
        "(@)", "(@)", "(@,1)", "(p0,@)", "f0(@)", "f0(@,2)", "let a=@ in 1", "let a=@ in a", "let b=p0 in @",
        "case @ of (a,b) in a", "case (1,2) of (c,d) in @", "if @ then 1 else p0", "if 1 then @ else p0",
        "if p0 then 1 else @", "1+(@)", "(@)*2<p0"
    };
    // An object is promised for 512 calls; a text and what is asked of it in one go stay under half of that.
    private static final int MOST_CALLS = 512;
    private static final int CALLS_OF_ONE_GO = 256;

    private final Random random;
    private final StrictProofs x = new StrictProofs();
    private final Model model = new Model();
    private final StringBuilder said = new StringBuilder();
    private final int[] faults;
    private final int[] ends;
    private Programs latest;
    private int calls = 0;
    private boolean isWrong = false;

    private ModelTest(long seed, int[] faults, int[] ends) {
        random = new Random(seed);
        this.faults = faults;
        this.ends = ends;
    }

    /** Without arguments the usual numbers; else those from one to another. */
    public static void main(String[] args) {
        long from = args.length == 2 ? Long.parseLong(args[0]) : 1;
        long to = args.length == 2 ? Long.parseLong(args[1]) : 2500;
        int[] faults = new int[7];
        int[] ends = new int[6];
        for (long seed = from; seed <= to; seed++) {
            new ModelTest(seed, faults, ends).hold(seed);
        }
        for (int n = 0; n < 7; n++) {
            if (faults[n] == 0 || n > 0 && n < 6 && ends[n] == 0) {
                Calls.tell("no text with fault " + n + ", or no run that ends by it");
            }
        }
        if (args.length == 2) {
            System.out.println("faults " + Arrays.toString(faults) + ", ends " + Arrays.toString(ends));
        }
        Calls.end();
    }

    private void hold(long seed) {
        while (calls + CALLS_OF_ONE_GO < MOST_CALLS && !isWrong) {
            Programs before = latest;
            tape(someText());
            int answer = hold("read", x::read, model::read);
            latest = answer < 0 && before != null ? before : latest;
            faults[answer < 0 ? -answer : 0]++;
            hold("place", x::place, model::place);
            for (int n = random.nextInt(40); n > 0 && calls + CALLS_OF_ONE_GO / 4 < MOST_CALLS; n--) {
                someCall();
            }
        }
        if (isWrong) {
            Calls.tell("seed " + seed + ": " + said);
        }
    }

    /** What the class answers; 0, if it throws. */
    private int hold(String call, Calls.Call own, Calls.Call due) {
        if (isWrong) {
            return 0;
        }
        calls++;
        String got = Calls.answerOf(own);
        String want = Calls.answerOf(due);
        said.append(call).append(" -> ").append(got).append('\n');
        if (!got.equals(want)) {
            said.append("due is ").append(want);
            isWrong = true;
        }
        return got.startsWith("throws") ? 0 : Integer.parseInt(got);
    }

    private void tape(String text) {
        said.append(text).append('\n');
        int size = model.cut(0);
        hold("cut the rest", () -> x.cut(0), () -> size);
        for (int from = 0; from < text.length(); from += 20) {
            int[] n = new int[5];
            for (int i = 0; i < 20; i++) {
                n[i / 4] = n[i / 4] << 8 | (from + i < text.length() ? text.charAt(from + i) & 255 : ' ');
            }
            hold("feed", () -> x.feed(n[0], n[1], n[2], n[3], n[4]), () -> model.feed(n));
        }
        int keep = Math.min(text.length(), 4000);
        hold("cut to " + keep, () -> x.cut(keep), () -> model.cut(keep));
    }

    private String someText() {
        int how = random.nextInt(20);
        latest = new Programs(random, how == 0 ? 14 : 4, random.nextBoolean());
        String text = latest.text;
        if (how < 9) {
            text = spread(text, random.nextInt(4) == 0 ? 3 : 50, 0);
        } else if (how < 17) {
            text = spread(text, 50, 1 + random.nextInt(2));
        } else if (how == 17) {
            int at = random.nextInt(text.length());
            text = text.substring(0, at) + (char) random.nextInt(256) + text.substring(at + 1);
        } else if (how == 18) {
            text = text.substring(0, random.nextInt(text.length()));
        } else {
            text = text + nested();
        }
        return text.length() > 4100 ? text.substring(0, 4100) : text;
    }

    /** A FUNCTION of some twenty E's, one within the other. */
    private String nested() {
        String e = "@";
        for (int n = 15 + random.nextInt(8); n > 0; n--) {
            String around = AROUND[random.nextInt(random.nextBoolean() ? 2 : AROUND.length)];
            e = e.replace("@", around);
        }
        return "deep(p0:num):num=" + e.replace("@", random.nextBoolean() ? "p0" : "(1,p0)") + ";";
    }

    /** The text once more, a blank here and there, and so many of its tokens changed. */
    private String spread(String text, int blanks, int changes) {
        String which = random.nextInt(4) > 0 ? ATOM : "(?s).*";
        int count = (int) TOKEN.matcher(text).results().filter(t -> t.group().matches(which)).count();
        int one = count == 0 || changes == 0 ? -1 : random.nextInt(count);
        int two = count == 0 || changes < 2 ? -1 : random.nextInt(count);
        StringBuilder all = new StringBuilder();
        Matcher tokens = TOKEN.matcher(text);
        int end = 0;
        int n = 0;
        while (tokens.find()) {
            all.append(text, end, tokens.start());
            end = tokens.end();
            all.append(random.nextInt(blanks) == 0 ? "\n  " : "");
            boolean isOne = tokens.group().matches(which);
            all.append(isOne && (n == one || n == two) ? changed(tokens.group()) : tokens.group());
            n += isOne ? 1 : 0;
        }
        return all.append(text.substring(end)).toString();
    }

    private String changed(String token) {
        String other = TOKENS[random.nextInt(TOKENS.length)];
        if (token.matches(ATOM) && random.nextInt(4) > 0) {
            return " " + ATOMS[random.nextInt(ATOMS.length)];
        }
        switch (random.nextInt(5)) {
            case 0:
                return "";
            case 1:
                return token + " " + token;
            case 2:
                return other + " " + token;
            case 3:
                return token + " " + other;
            default:
                return " " + other + " ";
        }
    }

    private int about(int most) {
        return random.nextInt(most + 2) - 1;
    }

    private void someCall() {
        int f = random.nextInt(12) == 0 ? about(13) : random.nextInt(latest.params.size());
        int d = random.nextInt(4) == 0 ? about(27) : about(5);
        int p = about(5);
        switch (random.nextInt(14)) {
            case 0:
                hold("function " + f + " " + p, () -> x.function(f, p), () -> model.function(f, p));
                break;
            case 1:
                hold("rounds", x::rounds, model::rounds);
                break;
            case 2:
                hold("dead " + f + " " + d, () -> x.dead(f, d) ? 1 : 0, () -> model.dead(f, d) ? 1 : 0);
                break;
            case 3:
                hold("asks " + f + " " + d + " " + p, () -> x.asks(f, d, p), () -> model.asks(f, d, p));
                break;
            case 4:
                hold("strict " + f + " " + p, () -> x.strict(f, p) ? 1 : 0, () -> model.strict(f, p) ? 1 : 0);
                break;
            case 5:
                int v = about(12);
                hold("plant " + f + " " + d + " " + p + " " + v, () -> x.plant(f, d, p, v), () -> model.plant(f, d, p, v));
                break;
            case 6:
                hold("check", x::check, model::check);
                break;
            case 7:
                // an INPUT too many stays for all runs to come
                input(random.nextInt(20) > 0 ? 3 : about(3), random.nextInt());
                break;
            case 8:
                hold("cut " + d, () -> x.cut(d), () -> model.cut(d));
                break;
            case 9:
                allRows(f);
                break;
            default:
                fittingRun(f, random.nextInt(12) == 0 ? d : 1 + random.nextInt(demandsOf(f) - 1));
        }
    }

    private int demandsOf(int f) {
        return f < 0 || f >= latest.answers.size() ? 2 : Programs.DEMANDS[latest.answers.get(f)];
    }

    private void input(int kind, int v) {
        hold("input " + kind + " " + v, () -> x.input(kind, v), () -> model.input(kind, v));
    }

    private void allRows(int f) {
        hold("rounds", x::rounds, model::rounds);
        for (int n = 1; n < 12 && n < 60 - calls % 60; n++) {
            int d = n;
            hold("dead " + f + " " + d, () -> x.dead(f, d) ? 1 : 0, () -> model.dead(f, d) ? 1 : 0);
            for (int p = 0; p < 4; p++) {
                int param = p;
                hold("asks " + f + " " + d + " " + p, () -> x.asks(f, d, param), () -> model.asks(f, d, param));
            }
        }
    }

    private void fittingRun(int f, int d) {
        if (f >= 0 && f < latest.params.size() && model.told(6) == 0) {
            for (int type : latest.params.get(f)) {
                give(type);
            }
        }
        int steps = random.nextInt(8) == 0 ? about(40) : 20000 - random.nextInt(2) * 19000;
        int end = hold("run " + f + " " + d + " " + steps, () -> x.run(f, d, steps), () -> model.run(f, d, steps));
        ends[end]++;
        for (int n = -1; n < 8; n++) {
            int what = n;
            hold("told " + what, () -> x.told(what), () -> model.told(what));
            hold("result " + what, () -> x.result(what), () -> model.result(what));
            hold("needed " + what, () -> x.needed(what) ? 1 : 0, () -> model.needed(what) ? 1 : 0);
        }
    }

    private void give(int type) {
        if (random.nextInt(8) == 0) {
            input(1, 0);
        } else if (type == 0) {
            input(0, random.nextInt(10) == 0 ? random.nextInt() : random.nextInt(12) - 1);
        } else {
            input(2, 0);
            give(Programs.FIRST[type]);
            give(Programs.SECOND[type]);
        }
    }
}
