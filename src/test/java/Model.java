import java.nio.charset.StandardCharsets;
import java.util.ArrayList;
import java.util.Arrays;
import java.util.HashMap;
import java.util.List;
import java.util.Map;
import java.util.Set;

/**
 * The document once more, from its first line to its last, in the plainest form and with all of Java's library: no rows
 * are used again, nothing is packed, FAULTS and ends are thrown. ModelTest holds the class against it.
 */
final class Model {
    private static final Set<String> WORDS = Set.of("num", "if", "then", "else", "let", "in", "case", "of", "fail");
    private static final Set<String> SIGNS = Set.of("==", "=", "(", ")", ",", ";", ":", "+", "-", "*", "<");

    private static final class Fault extends RuntimeException {
        private static final long serialVersionUID = 1;
        final int number;
        final int at;

        Fault(int number, int at) {
            this.number = number;
            this.at = at;
        }
    }

    private static final class Ended extends RuntimeException {
        private static final long serialVersionUID = 1;
        final int how;

        Ended(int how) {
            this.how = how;
        }
    }

    private record Token(String text, int at) {
        boolean isWord() {
            return WORDS.contains(text);
        }

        boolean isName() {
            return text.matches("[a-z][a-z0-9]{0,7}") && !isWord();
        }

        boolean isNumber() {
            return text.matches("[0-9]{1,9}");
        }

        boolean isNone() {
            return !isWord() && !isName() && !isNumber() && !SIGNS.contains(text);
        }
    }

    /** num has no parts. */
    private record Type(Type first, Type second) {
        boolean isPair() {
            return first != null;
        }

        int depth() {
            return isPair() ? 1 + Math.max(first.depth(), second.depth()) : 0;
        }

        int demands() {
            return isPair() ? 1 + first.demands() * second.demands() : 2;
        }

        int all() {
            return demands() - 1;
        }

        int a(int d) {
            return d == 0 ? 0 : (d - 1) / second.demands();
        }

        int b(int d) {
            return d == 0 ? 0 : (d - 1) % second.demands();
        }

        int demand(int a, int b) {
            return 1 + a * second.demands() + b;
        }

        int together(int d, int e) {
            if (d == 0) {
                return e;
            }
            if (e == 0) {
                return d;
            }
            return isPair() ? demand(first.together(a(d), a(e)), second.together(b(d), b(e))) : 1;
        }

        int either(int d, int e) {
            if (d == 0 || e == 0) {
                return 0;
            }
            return isPair() ? demand(first.either(a(d), a(e)), second.either(b(d), b(e))) : 1;
        }
    }

    private static final Type NUM = new Type(null, null);
    private static final Type NOTHING = new Type(null, null);
    private static final Type ANY_PAIR = new Type(null, null);

    /** A NAME of a PARAM, a let or a case, wherever it stands. */
    private static final class Name {
        final String text;
        Type type;

        Name(String text, Type type) {
            this.text = text;
            this.type = type;
        }
    }

    private static final class Expression {
        final String kind;
        final Token first;
        final List<Expression> parts;
        final List<Name> bound = new ArrayList<>();
        Type type;
        Name name;
        Function called;

        Expression(String kind, Token first, Expression... parts) {
            this.kind = kind;
            this.first = first;
            this.parts = new ArrayList<>(Arrays.asList(parts));
        }

        Expression part(int n) {
            return parts.get(n);
        }
    }

    private static final class Row {
        boolean dead = true;
        final int[] has;

        Row(Function f) {
            has = new int[f.params.size()];
            for (int p = 0; p < has.length; p++) {
                has[p] = f.params.get(p).type.all();
            }
        }
    }

    private static final class Function {
        final String title;
        final List<Name> params = new ArrayList<>();
        int names = 0;
        Type type;
        Expression body;
        Row[] rows;

        Function(String title) {
            this.title = title;
        }
    }

    private static final class Thing {
        final Expression expression;
        final Map<Name, Thing> names;
        Object value;
        boolean needed = false;
        boolean beingWorked = false;

        Thing(Expression expression, Map<Name, Thing> names) {
            this.expression = expression;
            this.names = names;
        }
    }

    private record Pair(Thing first, Thing second) {
    }

    private record Input(int kind, int v) {
    }

    private byte[] tape = new byte[0];
    private List<Function> program = null;
    private int place = -1;
    private boolean rounded = false;
    private final List<Input> inputs = new ArrayList<>();

    // ---- 1 TEXTS

    int feed(int... numbers) {
        if (tape.length + 20 > 4000) {
            throw new IllegalStateException();
        }
        byte[] longer = Arrays.copyOf(tape, tape.length + 20);
        for (int i = 0; i < 20; i++) {
            longer[tape.length + i] = (byte) (numbers[i / 4] >>> 24 - i % 4 * 8);
        }
        tape = longer;
        return tape.length;
    }

    int cut(int n) {
        if (n < 0 || n > tape.length) {
            throw new IllegalArgumentException();
        }
        int went = tape.length - n;
        tape = Arrays.copyOf(tape, n);
        return went;
    }

    int read() {
        String text = new String(tape, StandardCharsets.ISO_8859_1);
        tape = new byte[0];
        place = -1;
        try {
            List<Function> functions = new Text(text).program();
            new Judge(functions).all();
            program = functions;
        } catch (Fault fault) {
            place = fault.at;
            return -fault.number;
        }
        rounded = false;
        latest = null;
        return program.size();
    }

    int place() {
        return place;
    }

    int function(int f, int what) {
        Function function = functionAt(f);
        if (what < 0 || what >= 3 + function.params.size()) {
            throw new IndexOutOfBoundsException();
        }
        if (what == 0) {
            return function.params.size();
        }
        if (what == 1) {
            return function.names;
        }
        return what == 2 ? function.type.demands() : function.params.get(what - 3).type.demands();
    }

    private Function functionAt(int f) {
        if (program == null || f < 0 || f >= program.size()) {
            throw new IndexOutOfBoundsException();
        }
        return program.get(f);
    }

    /** TOKEN by TOKEN. */
    private static final class Text {
        final List<Token> tokens = new ArrayList<>();
        final int length;
        final List<Function> functions = new ArrayList<>();
        Function f;
        int now = 0;

        Text(String text) {
            length = text.length();
            int i = 0;
            while (i < length) {
                int from = i;
                if (text.charAt(i) == 32 || text.charAt(i) == 10) {
                    i++;
                    continue;
                }
                while (i < length && ("" + text.charAt(i)).matches("[a-z0-9]")) {
                    i++;
                }
                if (i == from) {
                    i += text.startsWith("==", i) ? 2 : 1;
                }
                tokens.add(new Token(text.substring(from, i), from));
            }
        }

        List<Function> program() {
            do {
                function();
            } while (now < tokens.size());
            return functions;
        }

        boolean is(String text) {
            return now < tokens.size() && tokens.get(now).text.equals(text);
        }

        boolean isOneOf(String... texts) {
            return now < tokens.size() && Arrays.asList(texts).contains(tokens.get(now).text);
        }

        boolean isName() {
            return now < tokens.size() && tokens.get(now).isName();
        }

        boolean isNumber() {
            return now < tokens.size() && tokens.get(now).isNumber();
        }

        /** The TOKEN that stands there, if it has no FAULT. */
        Token look(boolean canStand, boolean told, boolean tooMuch) {
            if (now >= tokens.size()) {
                throw new Fault(2, length);
            }
            Token token = tokens.get(now);
            if (token.isNone()) {
                throw new Fault(1, token.at);
            }
            if (!canStand) {
                throw new Fault(2, token.at);
            }
            if (told) {
                throw new Fault(3, token.at);
            }
            if (tooMuch || now >= 1000) {
                throw new Fault(6, token.at);
            }
            return token;
        }

        Token take(boolean canStand, boolean told, boolean tooMuch) {
            Token token = look(canStand, told, tooMuch);
            now++;
            return token;
        }

        Token take(String text) {
            return take(is(text), false, false);
        }

        void function() {
            boolean told = functions.stream().anyMatch(g -> is(g.title));
            f = new Function(take(isName(), told, functions.size() >= 12).text);
            functions.add(f);
            take("(");
            if (!is(")")) {
                param();
                while (is(",")) {
                    take(",");
                    param();
                }
            }
            take(")");
            take(":");
            f.type = type(0);
            take("=");
            f.body = e(0);
            take(";");
        }

        void param() {
            boolean told = f.params.stream().anyMatch(p -> is(p.text));
            Token name = take(isName(), told, f.params.size() >= 4);
            f.names++;
            take(":");
            f.params.add(new Name(name.text, type(0)));
        }

        Type type(int within) {
            if (!is("(")) {
                take("num");
                return NUM;
            }
            take(true, false, within >= 2);
            Type first = type(within + 1);
            take(",");
            Type second = type(within + 1);
            take(")");
            return new Type(first, second);
        }

        Name newName(String other) {
            Token token = take(isName(), is(other), f.names >= 16);
            f.names++;
            return new Name(token.text, null);
        }

        Expression e(int within) {
            look(isOneOf("let", "case", "if", "fail", "(") || isName() || isNumber(), false, within >= 20);
            Token first = tokens.get(now);
            if (is("let")) {
                take("let");
                Name name = newName("");
                take("=");
                Expression let = new Expression("let", first, e(within + 1));
                take("in");
                let.parts.add(e(within + 1));
                let.bound.add(name);
                return let;
            }
            if (is("case")) {
                take("case");
                Expression it = new Expression("case", first, e(within + 1));
                take("of");
                take("(");
                it.bound.add(newName(""));
                take(",");
                it.bound.add(newName(it.bound.get(0).text));
                take(")");
                take("in");
                it.parts.add(e(within + 1));
                return it;
            }
            if (is("if")) {
                take("if");
                Expression it = new Expression("if", first, e(within + 1));
                take("then");
                it.parts.add(e(within + 1));
                take("else");
                it.parts.add(e(within + 1));
                return it;
            }
            Expression left = sum(within);
            return isOneOf("<", "==") ? sign(left, take(true, false, false), sum(within)) : left;
        }

        Expression sum(int within) {
            Expression left = product(within);
            return isOneOf("+", "-") ? sign(left, take(true, false, false), product(within)) : left;
        }

        Expression product(int within) {
            Expression left = atom(within);
            return is("*") ? sign(left, take("*"), atom(within)) : left;
        }

        Expression sign(Expression left, Token sign, Expression right) {
            return new Expression(sign.text, left.first, left, right);
        }

        Expression atom(int within) {
            Token first = take(isOneOf("fail", "(") || isName() || isNumber(), false, false);
            if (first.isNumber()) {
                return new Expression("number", first);
            }
            if (first.text.equals("fail")) {
                Expression fail = new Expression("fail", first);
                fail.type = type(0);
                return fail;
            }
            if (first.isName() && !is("(")) {
                return new Expression("name", first);
            }
            if (first.isName()) {
                take("(");
                Expression call = new Expression("call", first);
                if (!is(")")) {
                    call.parts.add(e(within + 1));
                    while (is(",")) {
                        take(",");
                        call.parts.add(e(within + 1));
                    }
                }
                take(")");
                return call;
            }
            Expression one = e(within + 1);
            if (is(")")) {
                take(")");
                return one;
            }
            take(",");
            Expression pair = new Expression("pair", first, one, e(within + 1));
            take(")");
            return pair;
        }
    }

    /** FUNCTION by FUNCTION, EXPRESSION by EXPRESSION. */
    private static final class Judge {
        final List<Function> functions;

        Judge(List<Function> functions) {
            this.functions = functions;
        }

        void all() {
            for (Function f : functions) {
                judge(f.body, f.type, f.params);
            }
        }

        /** WANTED is told by which Type it is, as NOTHING and ANY_PAIR look like num. */
        void judge(Expression e, Type wanted, List<Name> scope) {
            e.type = typeOf(e, wanted, scope);
            boolean fits = wanted == NOTHING || (wanted == ANY_PAIR ? e.type.isPair() : e.type.equals(wanted));
            if (!fits || e.type.depth() > 2) {
                throw new Fault(5, e.first.at);
            }
        }

        Type typeOf(Expression e, Type wanted, List<Name> scope) {
            boolean isTold = wanted != NOTHING && wanted != ANY_PAIR;
            switch (e.kind) {
                case "number":
                    return NUM;
                case "fail":
                    return e.type;
                case "name":
                    scope.stream().filter(n -> n.text.equals(e.first.text)).forEach(n -> e.name = n);
                    if (e.name == null) {
                        throw new Fault(4, e.first.at);
                    }
                    return e.name.type;
                case "call":
                    return typeOfCall(e, scope);
                case "pair":
                    boolean isPair = isTold && wanted.isPair();
                    judge(e.part(0), isPair ? wanted.first : NOTHING, scope);
                    judge(e.part(1), isPair ? wanted.second : NOTHING, scope);
                    return new Type(e.part(0).type, e.part(1).type);
                case "if":
                    judge(e.part(0), NUM, scope);
                    judge(e.part(1), wanted, scope);
                    judge(e.part(2), isTold ? wanted : e.part(1).type, scope);
                    return e.part(1).type;
                case "let":
                    judge(e.part(0), NOTHING, scope);
                    e.bound.get(0).type = e.part(0).type;
                    break;
                case "case":
                    judge(e.part(0), ANY_PAIR, scope);
                    e.bound.get(0).type = e.part(0).type.first;
                    e.bound.get(1).type = e.part(0).type.second;
                    break;
                default:
                    judge(e.part(0), NUM, scope);
                    judge(e.part(1), NUM, scope);
                    return NUM;
            }
            List<Name> inner = new ArrayList<>(scope);
            inner.addAll(e.bound);
            judge(e.part(1), wanted, inner);
            return e.part(1).type;
        }

        Type typeOfCall(Expression e, List<Name> scope) {
            functions.stream().filter(g -> g.title.equals(e.first.text)).forEach(g -> e.called = g);
            if (e.called == null) {
                throw new Fault(4, e.first.at);
            }
            if (e.called.params.size() != e.parts.size()) {
                throw new Fault(5, e.first.at);
            }
            for (int p = 0; p < e.parts.size(); p++) {
                judge(e.part(p), e.called.params.get(p).type, scope);
            }
            return e.called.type;
        }
    }

    // ---- 2 DEMANDS; what is asked, NAME by NAME, a NAME that is not there being asked nothing; DEAD is null

    int rounds() {
        if (program == null) {
            throw new IllegalStateException();
        }
        for (Function f : program) {
            f.rows = new Row[f.type.demands()];
            for (int d = 1; d < f.rows.length; d++) {
                f.rows[d] = new Row(f);
            }
        }
        rounded = true;
        int count = 1;
        while (round()) {
            count++;
        }
        return count;
    }

    private boolean round() {
        boolean changes = false;
        for (Function f : program) {
            for (int d = 1; d < f.rows.length; d++) {
                Row row = new Row(f);
                Map<Name, Integer> asked = asks(f.body, d);
                row.dead = asked == null;
                for (int p = 0; p < row.has.length && asked != null; p++) {
                    row.has[p] = asked.getOrDefault(f.params.get(p), 0);
                }
                changes |= row.dead != f.rows[d].dead || !Arrays.equals(row.has, f.rows[d].has);
                f.rows[d] = row;
            }
        }
        return changes;
    }

    private static Map<Name, Integer> together(Map<Name, Integer> one, Map<Name, Integer> two) {
        if (one == null || two == null) {
            return null;
        }
        Map<Name, Integer> both = new HashMap<>(one);
        two.forEach((name, d) -> both.put(name, name.type.together(d, one.getOrDefault(name, 0))));
        return both;
    }

    private static Map<Name, Integer> either(Map<Name, Integer> one, Map<Name, Integer> two) {
        if (one == null || two == null) {
            return one == null ? two : one;
        }
        Map<Name, Integer> both = new HashMap<>();
        two.forEach((name, d) -> both.put(name, name.type.either(d, one.getOrDefault(name, 0))));
        return both;
    }

    private Map<Name, Integer> asks(Expression e, int d) {
        if (d == 0) {
            return Map.of();
        }
        switch (e.kind) {
            case "number":
                return Map.of();
            case "fail":
                return null;
            case "name":
                return Map.of(e.name, d);
            case "if":
                return together(asks(e.part(0), 1), either(asks(e.part(1), d), asks(e.part(2), d)));
            case "pair":
                return together(asks(e.part(0), e.type.a(d)), asks(e.part(1), e.type.b(d)));
            case "let":
            case "case":
                Map<Name, Integer> last = asks(e.part(1), d);
                if (last == null) {
                    return null;
                }
                int a = last.getOrDefault(e.bound.get(0), 0);
                if (e.kind.equals("let")) {
                    return together(last, asks(e.part(0), a));
                }
                return together(last, asks(e.part(0), e.part(0).type.demand(a, last.getOrDefault(e.bound.get(1), 0))));
            case "call":
                Row row = e.called.rows[d];
                Map<Name, Integer> all = row.dead ? null : Map.of();
                for (int p = 0; p < e.parts.size(); p++) {
                    all = together(all, asks(e.part(p), row.has[p]));
                }
                return all;
            default:
                return together(asks(e.part(0), 1), asks(e.part(1), 1));
        }
    }

    private Row rowAt(int f, int d) {
        if (!rounded) {
            throw new IllegalStateException();
        }
        Function function = functionAt(f);
        if (d < 1 || d >= function.type.demands()) {
            throw new IndexOutOfBoundsException();
        }
        return function.rows[d];
    }

    boolean dead(int f, int d) {
        return rowAt(f, d).dead;
    }

    int asks(int f, int d, int param) {
        Row row = rowAt(f, d);
        if (param < 0 || param >= row.has.length) {
            throw new IndexOutOfBoundsException();
        }
        return row.has[param];
    }

    boolean strict(int f, int param) {
        return asks(f, 1, param) != 0;
    }

    int plant(int f, int d, int param, int v) {
        int had = asks(f, d, param);
        if (v < 0 || v >= program.get(f).params.get(param).type.demands()) {
            throw new IllegalArgumentException();
        }
        rowAt(f, d).dead = false;
        rowAt(f, d).has[param] = v;
        return had;
    }

    int check() {
        if (!rounded) {
            throw new IllegalStateException();
        }
        for (int f = 0; f < program.size(); f++) {
            for (int d = 1; d < program.get(f).rows.length; d++) {
                if (tellsTooMuch(program.get(f), d)) {
                    return 32 * f + d;
                }
            }
        }
        return -1;
    }

    private boolean tellsTooMuch(Function f, int d) {
        Map<Name, Integer> asked = asks(f.body, d);
        Row row = f.rows[d];
        if (row.dead) {
            return asked != null;
        }
        for (int p = 0; p < row.has.length; p++) {
            Name param = f.params.get(p);
            int asks = asked == null ? param.type.all() : asked.getOrDefault(param, 0);
            if (param.type.either(row.has[p], asks) != row.has[p]) {
                return true;
            }
        }
        return false;
    }

    // ---- 3 RUNS

    private Run latest = null;

    int input(int kind, int v) {
        if (kind < 0 || kind > 2) {
            throw new IllegalArgumentException();
        }
        if (inputs.size() >= 40) {
            throw new IllegalStateException();
        }
        inputs.add(new Input(kind, v));
        return inputs.size();
    }

    int run(int f, int d, int steps) {
        if (program == null) {
            throw new IllegalStateException();
        }
        Function function = functionAt(f);
        if (d < 1 || d >= function.type.demands()) {
            throw new IndexOutOfBoundsException();
        }
        if (steps < 0 || steps > 20000) {
            throw new IllegalArgumentException();
        }
        List<Input> left = new ArrayList<>(inputs);
        List<Thing> things = new ArrayList<>();
        for (Name param : function.params) {
            things.add(inputThing(left, param.type));
        }
        if (!left.isEmpty()) {
            throw new IllegalArgumentException();
        }
        latest = new Run(function, things, steps);
        inputs.clear();
        return latest.all(d);
    }

    private static Thing inputThing(List<Input> left, Type type) {
        if (left.isEmpty()) {
            throw new IllegalArgumentException();
        }
        Input input = left.remove(0);
        Thing thing = new Thing(null, null);
        if (input.kind == 1) {
            return thing;
        }
        if (type.isPair() != (input.kind == 2)) {
            throw new IllegalArgumentException();
        }
        if (type.isPair()) {
            Thing first = inputThing(left, type.first);
            thing.value = new Pair(first, inputThing(left, type.second));
        } else {
            thing.value = input.v;
        }
        return thing;
    }

    int told(int what) {
        if (what < 0 || what > 6) {
            throw new IndexOutOfBoundsException();
        }
        if (what == 6) {
            return inputs.size();
        }
        return latest == null ? 0 : latest.told()[what];
    }

    int result(int part) {
        if (part < 0 || part > 6 || latest == null || latest.how != 1) {
            throw new IndexOutOfBoundsException();
        }
        // 0 the whole, then the way to each part
        String[] ways = {"", "1", "2", "11", "12", "21", "22"};
        Object value = latest.answer;
        for (char step : ways[part].toCharArray()) {
            if (!(value instanceof Pair pair)) {
                throw new IndexOutOfBoundsException();
            }
            value = step == '1' ? pair.first.value : pair.second.value;
        }
        if (!(value instanceof Integer number)) {
            throw new IndexOutOfBoundsException();
        }
        return number;
    }

    boolean needed(int param) {
        if (latest == null || param < 0 || param >= latest.arguments.size()) {
            throw new IndexOutOfBoundsException();
        }
        return latest.arguments.get(param).needed;
    }

    private static final class Run {
        final Function function;
        final List<Thing> arguments;
        final int most;
        final List<Thing> made = new ArrayList<>();
        int steps = 0;
        int pairs = 0;
        int calls = 0;
        int depth = 0;
        int deepest = 0;
        int how = 0;
        Object answer;

        Run(Function function, List<Thing> arguments, int most) {
            this.function = function;
            this.arguments = arguments;
            this.most = most;
        }

        int all(int d) {
            try {
                Map<Name, Thing> names = new HashMap<>();
                for (int p = 0; p < arguments.size(); p++) {
                    names.put(function.params.get(p), arguments.get(p));
                }
                answer = work(function.body, names);
                needParts(answer, function.type, d);
                how = 1;
            } catch (Ended end) {
                how = end.how;
            }
            return how;
        }

        int[] told() {
            int never = (int) made.stream().filter(t -> !t.needed).count();
            return new int[] {steps, made.size(), pairs, calls, deepest, never};
        }

        void needParts(Object value, Type type, int d) {
            if (value instanceof Pair pair) {
                if (type.a(d) != 0) {
                    needParts(need(pair.first), type.first, type.a(d));
                }
                if (type.b(d) != 0) {
                    needParts(need(pair.second), type.second, type.b(d));
                }
            }
        }

        Object need(Thing thing) {
            thing.needed = true;
            if (thing.value != null) {
                return thing.value;
            }
            if (thing.beingWorked || thing.expression == null) {
                throw new Ended(2);
            }
            thing.beingWorked = true;
            thing.value = work(thing.expression, thing.names);
            thing.beingWorked = false;
            return thing.value;
        }

        Thing thing(Expression e, Map<Name, Thing> names) {
            if (e.kind.equals("name")) {
                return names.get(e.name);
            }
            if (made.size() == 1500) {
                throw new Ended(5);
            }
            made.add(new Thing(e, names));
            return made.get(made.size() - 1);
        }

        Object work(Expression e, Map<Name, Thing> names) {
            if (steps == most) {
                throw new Ended(3);
            }
            if (depth == 150) {
                throw new Ended(4);
            }
            steps++;
            depth++;
            deepest = Math.max(deepest, depth);
            Object value = valueOf(e, names);
            depth--;
            return value;
        }

        int number(Expression e, Map<Name, Thing> names) {
            return (Integer) work(e, names);
        }

        Object valueOf(Expression e, Map<Name, Thing> names) {
            switch (e.kind) {
                case "number":
                    return Integer.valueOf(e.first.text);
                case "fail":
                    throw new Ended(2);
                case "name":
                    return need(names.get(e.name));
                case "if":
                    return work(number(e.part(0), names) == 0 ? e.part(2) : e.part(1), names);
                case "let":
                    Map<Name, Thing> more = new HashMap<>(names);
                    more.put(e.bound.get(0), thing(e.part(0), names));
                    return work(e.part(1), more);
                case "case":
                    Pair parts = (Pair) work(e.part(0), names);
                    Map<Name, Thing> both = new HashMap<>(names);
                    both.put(e.bound.get(0), parts.first);
                    both.put(e.bound.get(1), parts.second);
                    return work(e.part(1), both);
                case "pair":
                    if (pairs == 1500) {
                        throw new Ended(5);
                    }
                    pairs++;
                    Thing first = thing(e.part(0), names);
                    return new Pair(first, thing(e.part(1), names));
                case "call":
                    return call(e, names);
                default:
                    int left = number(e.part(0), names);
                    return reckon(e.kind, left, number(e.part(1), names));
            }
        }

        Object call(Expression e, Map<Name, Thing> names) {
            if (calls == 1500) {
                throw new Ended(5);
            }
            calls++;
            Map<Name, Thing> own = new HashMap<>();
            for (int p = 0; p < e.parts.size(); p++) {
                own.put(e.called.params.get(p), thing(e.part(p), names));
            }
            return work(e.called.body, own);
        }

        int reckon(String sign, int left, int right) {
            switch (sign) {
                case "+":
                    return left + right;
                case "-":
                    return left - right;
                case "*":
                    return left * right;
                case "<":
                    return left < right ? 1 : 0;
                default:
                    return left == right ? 1 : 0;
            }
        }
    }
}
