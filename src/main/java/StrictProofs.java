import java.util.Arrays;

/**
 * Tells which arguments the functions of a lazy program must have, and runs such functions by need.
 * The document's words (TAPE, ROW, THING ..) are used here in its meaning.
 */
public final class StrictProofs {
    public static final int NONE = -1;

    private static final int MOST_BYTES = 4000;
    private static final int BYTES_OF_FEED = 20;
    private static final int MOST_TOKENS = 1000;
    private static final int MOST_FUNCTIONS = 12;
    private static final int MOST_PARAMS = 4;
    private static final int MOST_NAMES = 16;
    private static final int MOST_OUTER = 20;
    private static final int MOST_DEMANDS = 26;
    private static final int MOST_INPUTS = 40;
    private static final int MOST_STEPS = 20000;
    private static final int MOST_DEPTH = 150;
    private static final int MOST_MADE = 1500;
    private static final int FAR_ABOVE = 1000000;

    private static final int FAULT_NO_TOKEN = 1;
    private static final int FAULT_CANNOT_STAND = 2;
    private static final int FAULT_TOLD_ALREADY = 3;
    private static final int FAULT_NOT_THERE = 4;
    private static final int FAULT_TYPE = 5;
    private static final int FAULT_TOO_MANY = 6;

    // Kinds of tokens and of expressions; a sign of one byte is its own kind.
    private static final int END = 0;
    private static final int BAD = 1;
    private static final int NAME = 2;
    private static final int NUMBER = 3;
    private static final int SAME = 4;
    private static final int CALL = 5;
    private static final int PAIR = 6;
    private static final int FIRST_WORD = 300;
    private static final int NUM = 300;
    private static final int IF = 301;
    private static final int THEN = 302;
    private static final int ELSE = 303;
    private static final int LET = 304;
    private static final int IN = 305;
    private static final int CASE = 306;
    private static final int OF = 307;
    private static final int FAIL = 308;

    // "num if then else let in case of fail", packed as Tokens packs a row of letters.
    private static final long[] WORDS = {
        0x6e756dL, 0x6966L, 0x7468656eL, 0x656c7365L, 0x6c6574L, 0x696eL, 0x63617365L, 0x6f66L, 0x6661696cL
    };

    // No more than five TYPES fit into two levels of pairs: num, then 1 + 2 first + second.
    private static final int TYPE_NUM = 0;
    private static final int TYPE_FLAT = 1;
    private static final int[] DEMANDS = {2, 5, 11, 11, 26};

    private static final int WANTED_NOTHING = -1;
    private static final int WANTED_PAIR = -2;

    private static final int INPUT_NUMBER = 0;
    private static final int INPUT_UNDEFINED = 1;
    private static final int INPUT_PAIR = 2;

    private static final int GOES_ON = 0;
    private static final int END_DONE = 1;
    private static final int END_UNDEFINED = 2;
    private static final int END_STEPS = 3;
    private static final int END_DEPTH = 4;
    private static final int END_MADE = 5;

    private final Fault fault = new Fault();
    private final Tokens tokens = new Tokens();
    private final Parser parser = new Parser(tokens, fault);
    private final Typing typing = new Typing(tokens, fault);
    private final Rows rows = new Rows();
    private final Inputs inputs = new Inputs();
    private final Machine machine = new Machine();
    // A text with a FAULT must leave the PROGRAM as it is: texts are read into the spare one.
    private Program program = new Program();
    private Program spare = new Program();

    public StrictProofs() {
    }

    public int feed(int a, int b, int c, int d, int e) throws IllegalStateException {
        if (tokens.size > MOST_BYTES - BYTES_OF_FEED) {
            throw new IllegalStateException("no room on the tape");
        }
        tokens.append(a);
        tokens.append(b);
        tokens.append(c);
        tokens.append(d);
        tokens.append(e);
        return tokens.size;
    }

    public int cut(int n) throws IllegalArgumentException {
        if (n < 0 || n > tokens.size) {
            throw new IllegalArgumentException("the tape has not so many bytes");
        }
        int gone = tokens.size - n;
        tokens.size = n;
        return gone;
    }

    public int read() {
        fault.clear();
        tokens.scan();
        parser.parse(spare);
        typing.judge(spare);
        tokens.size = 0;
        if (fault.number != 0) {
            return -fault.number;
        }
        Program old = program;
        program = spare;
        spare = old;
        rows.forget();
        machine.forget();
        return program.functions;
    }

    public int place() {
        return fault.at;
    }

    public int function(int f, int what) throws IndexOutOfBoundsException {
        if (!program.hasFunction(f) || what < 0 || what > 2 && !program.hasParam(f, what - 3)) {
            throw new IndexOutOfBoundsException("nothing is told there");
        }
        switch (what) {
            case 0:
                return program.params[f];
            case 1:
                return program.names[f];
            case 2:
                return Shapes.demandsOf(program.answers[f]);
            default:
                return Shapes.demandsOf(program.nameType(f, what - 3));
        }
    }

    public int rounds() throws IllegalStateException {
        if (program.functions == 0) {
            throw new IllegalStateException("no program");
        }
        return rows.settle(program);
    }

    public boolean dead(int f, int d) throws IllegalStateException, IndexOutOfBoundsException {
        requireRows();
        requireRow(f, d);
        return rows.isDead(f, d);
    }

    public int asks(int f, int d, int param) throws IllegalStateException, IndexOutOfBoundsException {
        requireRows();
        requireRow(f, d);
        requireParam(f, param);
        return rows.demandOf(f, d, param);
    }

    public boolean strict(int f, int param) throws IllegalStateException, IndexOutOfBoundsException {
        requireRows();
        requireParam(f, param);
        return rows.demandOf(f, 1, param) != 0;
    }

    public int plant(int f, int d, int param, int v)
            throws IllegalStateException, IndexOutOfBoundsException, IllegalArgumentException {
        requireRows();
        requireRow(f, d);
        requireParam(f, param);
        if (v < 0 || v >= Shapes.demandsOf(program.nameType(f, param))) {
            throw new IllegalArgumentException("no such demand");
        }
        int had = rows.demandOf(f, d, param);
        rows.put(f, d, param, v);
        return had;
    }

    public int check() throws IllegalStateException {
        requireRows();
        return rows.firstTooMuch();
    }

    public int input(int kind, int v) throws IllegalArgumentException, IllegalStateException {
        if (kind < INPUT_NUMBER || kind > INPUT_PAIR) {
            throw new IllegalArgumentException("no such kind of input");
        }
        if (inputs.count >= MOST_INPUTS) {
            throw new IllegalStateException("no room for an input");
        }
        inputs.add(kind, v);
        return inputs.count;
    }

    public int run(int f, int d, int steps)
            throws IllegalStateException, IndexOutOfBoundsException, IllegalArgumentException {
        if (program.functions == 0) {
            throw new IllegalStateException("no program");
        }
        requireRow(f, d);
        if (steps < 0 || steps > MOST_STEPS) {
            throw new IllegalArgumentException("not so many steps");
        }
        if (!inputs.fit(program, f)) {
            throw new IllegalArgumentException("not the inputs that the parameters want");
        }
        machine.start(program, f, steps, inputs);
        machine.perform(d);
        inputs.count = 0;
        return machine.ended;
    }

    public int told(int what) throws IndexOutOfBoundsException {
        switch (what) {
            case 0:
                return machine.steps;
            case 1:
                return machine.things.made;
            case 2:
                return machine.things.pairs;
            case 3:
                return machine.calls;
            case 4:
                return machine.deepest;
            case 5:
                return machine.things.neverNeeded();
            case 6:
                return inputs.count;
            default:
                throw new IndexOutOfBoundsException("nothing is told there");
        }
    }

    public int result(int part) throws IndexOutOfBoundsException {
        if (part < 0 || part > 6 || !machine.hasNumber(part)) {
            throw new IndexOutOfBoundsException("no number there");
        }
        return machine.numberAt(part);
    }

    public boolean needed(int param) throws IndexOutOfBoundsException {
        if (!program.hasParam(machine.ran, param)) {
            throw new IndexOutOfBoundsException("no such parameter was run");
        }
        return machine.wasParamNeeded(param);
    }

    private void requireRows() {
        if (!rows.settled) {
            throw new IllegalStateException("no rounds yet");
        }
    }

    private void requireRow(int f, int d) {
        if (!program.hasFunction(f) || d < 1 || d >= Shapes.demandsOf(program.answers[f])) {
            throw new IndexOutOfBoundsException("no such row");
        }
    }

    private void requireParam(int f, int param) {
        if (!program.hasParam(f, param)) {
            throw new IndexOutOfBoundsException("no such parameter");
        }
    }

    /** TYPES, and the DEMANDS of things of a TYPE. */
    private static final class Shapes {
        private Shapes() {
        }

        /** NONE, if that would be a pair in a pair in a pair. */
        static int pairOf(int first, int second) {
            return first > TYPE_FLAT || second > TYPE_FLAT ? NONE : 1 + 2 * first + second;
        }

        static int firstOf(int type) {
            return type <= TYPE_NUM ? TYPE_NUM : (type - 1) / 2;
        }

        static int secondOf(int type) {
            return type <= TYPE_NUM ? TYPE_NUM : (type - 1) % 2;
        }

        static int demandsOf(int type) {
            return type < 0 || type >= DEMANDS.length ? DEMANDS[TYPE_NUM] : DEMANDS[type];
        }

        static int allOf(int type) {
            return demandsOf(type) - 1;
        }

        static int askedOfFirst(int type, int d) {
            int n = demandsOf(secondOf(type));
            return d <= 0 || n <= 0 ? 0 : (d - 1) / n;
        }

        static int askedOfSecond(int type, int d) {
            int n = demandsOf(secondOf(type));
            return d <= 0 || n <= 0 ? 0 : (d - 1) % n;
        }

        static int pairDemand(int type, int first, int second) {
            return 1 + first * demandsOf(secondOf(type)) + second;
        }

        static int together(int type, int a, int b) {
            if (a == 0 || b == 0) {
                return a + b;
            }
            if (type <= TYPE_NUM) {
                return 1;
            }
            int first = together(firstOf(type), askedOfFirst(type, a), askedOfFirst(type, b));
            int second = together(secondOf(type), askedOfSecond(type, a), askedOfSecond(type, b));
            return pairDemand(type, first, second);
        }

        static int either(int type, int a, int b) {
            if (a == 0 || b == 0) {
                return 0;
            }
            if (type <= TYPE_NUM) {
                return 1;
            }
            int first = either(firstOf(type), askedOfFirst(type, a), askedOfFirst(type, b));
            int second = either(secondOf(type), askedOfSecond(type, a), askedOfSecond(type, b));
            return pairDemand(type, first, second);
        }
    }

    /** The first FAULT that is told stays: those behind it follow from it. */
    private static final class Fault {
        int number = 0;
        int at = NONE;

        void clear() {
            number = 0;
            at = NONE;
        }

        void tell(int what, int where) {
            if (number == 0) {
                number = what;
                at = where;
            }
        }
    }

    /** THE TAPE and its TOKENS. */
    private static final class Tokens {
        private final byte[] bytes = new byte[MOST_BYTES];
        int size = 0;
        int count = 0;
        // One TOKEN too many is kept, as it has a FAULT of its own, and the text's end behind all.
        private final int[] kinds = new int[MOST_TOKENS + 2];
        private final int[] starts = new int[MOST_TOKENS + 2];
        // A NAME's letters, eight bits each, or a NUMBER's value.
        private final long[] texts = new long[MOST_TOKENS + 2];

        void append(int four) {
            for (int shift = 24; shift >= 0 && size < MOST_BYTES; shift -= 8) {
                bytes[size] = (byte) (four >> shift);
                size++;
            }
        }

        void scan() {
            count = 0;
            int next = pastBlanks(0);
            while (next < size && count <= MOST_TOKENS) {
                int behind = isOfRow(next) ? scanRow(next) : scanSign(next);
                starts[count] = next;
                count++;
                next = pastBlanks(behind);
            }
            kinds[count] = END;
            starts[count] = size;
        }

        int kindOf(int token) {
            return token < 0 || token > count ? END : kinds[token];
        }

        int startOf(int token) {
            return token < 0 || token > count ? size : starts[token];
        }

        long textOf(int token) {
            return token < 0 || token >= count ? 0 : texts[token];
        }

        private int pastBlanks(int from) {
            int next = from;
            while (next < size && (bytes[next] == ' ' || bytes[next] == '\n')) {
                next++;
            }
            return next;
        }

        private boolean isDigit(int at) {
            return at < size && bytes[at] >= '0' && bytes[at] <= '9';
        }

        private boolean isOfRow(int at) {
            return isDigit(at) || at < size && bytes[at] >= 'a' && bytes[at] <= 'z';
        }

        private int scanRow(int from) {
            int behind = from;
            int digits = 0;
            long letters = 0;
            long value = 0;
            while (behind < size && isOfRow(behind)) {
                if (isDigit(behind)) {
                    digits++;
                }
                letters = letters << 8 | bytes[behind];
                value = value * 10 + (bytes[behind] - '0');
                behind++;
            }
            int length = behind - from;
            if (isDigit(from)) {
                kinds[count] = digits == length && length <= 9 ? NUMBER : BAD;
                texts[count] = value;
            } else {
                kinds[count] = length <= 8 ? wordOrName(letters) : BAD;
                texts[count] = letters;
            }
            return behind;
        }

        private int wordOrName(long letters) {
            for (int w = 0; w < WORDS.length; w++) {
                if (WORDS[w] == letters) {
                    return FIRST_WORD + w;
                }
            }
            return NAME;
        }

        private int scanSign(int from) {
            if (bytes[from] == '=' && from + 1 < size && bytes[from + 1] == '=') {
                kinds[count] = SAME;
                return from + 2;
            }
            switch (bytes[from]) {
                case '=':
                case '(':
                case ')':
                case ',':
                case ';':
                case ':':
                case '+':
                case '-':
                case '*':
                case '<':
                    kinds[count] = bytes[from];
                    break;
                default:
                    kinds[count] = BAD;
            }
            return from + 1;
        }
    }

    /** FUNCTIONS, their NAMES, and the EXPRESSIONS of all of them as nodes of trees. */
    private static final class Program {
        int functions = 0;
        private final long[] titles = new long[MOST_FUNCTIONS];
        private final int[] params = new int[MOST_FUNCTIONS];
        private final int[] names = new int[MOST_FUNCTIONS];
        private final int[] answers = new int[MOST_FUNCTIONS];
        private final int[] bodies = new int[MOST_FUNCTIONS];
        private final long[] nameTexts = new long[MOST_FUNCTIONS * MOST_NAMES];
        private final int[] nameTypes = new int[MOST_FUNCTIONS * MOST_NAMES];

        // Each EXPRESSION has a TOKEN of its own, so there are no more of them than TOKENS.
        // one, two, three by kind: a NUMBER: its value; a NAME: its number in the FUNCTION; a call:
        // the FUNCTION, the first argument (then by next), how many; let, case: first E, last E,
        // the (first) NAME's number; all others: their E's.
        int nodes = 0;
        private final int[] kinds = new int[MOST_TOKENS];
        private final int[] one = new int[MOST_TOKENS];
        private final int[] two = new int[MOST_TOKENS];
        private final int[] three = new int[MOST_TOKENS];
        private final int[] next = new int[MOST_TOKENS];
        private final int[] types = new int[MOST_TOKENS];
        private final int[] firstTokens = new int[MOST_TOKENS];

        void clear() {
            functions = 0;
            nodes = 0;
        }

        boolean hasFunction(int f) {
            return f >= 0 && f < functions;
        }

        boolean hasParam(int f, int param) {
            return hasFunction(f) && param >= 0 && param < params[f];
        }

        boolean hasName(int f, int name) {
            return hasFunction(f) && name >= 0 && name < names[f];
        }

        boolean hasNode(int node) {
            return node >= 0 && node < nodes;
        }

        int nameType(int f, int name) {
            return hasName(f, name) ? nameTypes[f * MOST_NAMES + name] : TYPE_NUM;
        }

        void setNameType(int f, int name, int type) {
            if (hasName(f, name)) {
                nameTypes[f * MOST_NAMES + name] = type;
            }
        }

        int functionOf(long title) {
            for (int f = 0; f < functions; f++) {
                if (titles[f] == title) {
                    return f;
                }
            }
            return NONE;
        }

        void addFunction(long title) {
            if (functions < MOST_FUNCTIONS) {
                titles[functions] = title;
                params[functions] = 0;
                names[functions] = 0;
                functions++;
            }
        }

        int addName(int f, long text) {
            if (!hasFunction(f) || names[f] >= MOST_NAMES) {
                return NONE;
            }
            int name = names[f];
            names[f]++;
            nameTexts[f * MOST_NAMES + name] = text;
            return name;
        }

        boolean isNamed(int f, int name, long text) {
            return hasName(f, name) && nameTexts[f * MOST_NAMES + name] == text;
        }

        int addNode(int kind, int token, int first, int second, int third) {
            if (nodes >= MOST_TOKENS) {
                return NONE;
            }
            int node = nodes;
            nodes++;
            kinds[node] = kind;
            firstTokens[node] = token;
            one[node] = first;
            two[node] = second;
            three[node] = third;
            next[node] = NONE;
            types[node] = TYPE_NUM;
            return node;
        }
    }

    /**
     * Takes the TOKENS as a PROGRAM, up to its first FAULT. After a FAULT it stands at the text's end,
     * where nothing can be taken, so that all that is open comes to its end by itself.
     */
    private static final class Parser {
        private final Tokens tokens;
        private final Fault fault;
        private Program program;
        private int now;
        private int f;

        Parser(Tokens tokens, Fault fault) {
            this.tokens = tokens;
            this.fault = fault;
        }

        void parse(Program into) {
            program = into;
            program.clear();
            now = 0;
            parseFunction();
            for (int more = 0; more < MOST_FUNCTIONS && kind() != END; more++) {
                parseFunction();
            }
        }

        private int kind() {
            return tokens.kindOf(now);
        }

        private void stop(int number) {
            fault.tell(kind() == BAD ? FAULT_NO_TOKEN : number, tokens.startOf(now));
            now = tokens.count;
        }

        private void pass() {
            if (now >= MOST_TOKENS) {
                stop(FAULT_TOO_MANY);
            } else {
                now++;
            }
        }

        private void take(int wanted) {
            if (kind() == wanted) {
                pass();
            } else {
                stop(FAULT_CANNOT_STAND);
            }
        }

        private void takeNewName(boolean known, boolean full) {
            if (kind() != NAME) {
                stop(FAULT_CANNOT_STAND);
            } else if (known) {
                stop(FAULT_TOLD_ALREADY);
            } else if (full) {
                stop(FAULT_TOO_MANY);
            } else {
                pass();
            }
        }

        private void parseFunction() {
            long title = tokens.textOf(now);
            takeNewName(program.functionOf(title) != NONE, program.functions >= MOST_FUNCTIONS);
            if (fault.number != 0) {
                return;
            }
            f = program.functions;
            program.addFunction(title);
            take('(');
            if (kind() != ')') {
                parseParams();
            }
            take(')');
            take(':');
            program.answers[f] = parseType(0);
            take('=');
            program.bodies[f] = parseE(0);
            take(';');
        }

        private void parseParams() {
            parseParam();
            for (int more = 0; more < MOST_PARAMS && kind() == ','; more++) {
                pass();
                parseParam();
            }
        }

        private void parseParam() {
            long text = tokens.textOf(now);
            boolean known = false;
            for (int p = 0; p < program.params[f]; p++) {
                known = known || program.isNamed(f, p, text);
            }
            takeNewName(known, program.params[f] >= MOST_PARAMS);
            if (fault.number != 0) {
                return;
            }
            int name = program.addName(f, text);
            program.params[f]++;
            take(':');
            program.setNameType(f, name, parseType(0));
        }

        private int parseType(int outer) {
            if (kind() != '(') {
                take(NUM);
                return TYPE_NUM;
            }
            if (outer >= 2) {
                stop(FAULT_TOO_MANY);
                return TYPE_NUM;
            }
            pass();
            int first = parseType(outer + 1);
            take(',');
            int second = parseType(outer + 1);
            take(')');
            return Shapes.pairOf(first, second);
        }

        private boolean canBeginE() {
            switch (kind()) {
                case LET:
                case CASE:
                case IF:
                case NUMBER:
                case FAIL:
                case NAME:
                case '(':
                    return true;
                default:
                    return false;
            }
        }

        private int parseE(int outer) {
            if (outer >= MOST_OUTER || !canBeginE()) {
                stop(canBeginE() ? FAULT_TOO_MANY : FAULT_CANNOT_STAND);
                return NONE;
            }
            switch (kind()) {
                case LET:
                    return parseLet(outer + 1);
                case CASE:
                    return parseCase(outer + 1);
                case IF:
                    return parseIf(outer + 1);
                default:
                    return parseSides(outer + 1, 0);
            }
        }

        private int parseInnerName(long other) {
            long text = tokens.textOf(now);
            takeNewName(text == other, program.names[f] >= MOST_NAMES);
            return fault.number != 0 ? NONE : program.addName(f, text);
        }

        private int parseLet(int outer) {
            int token = now;
            pass();
            int name = parseInnerName(0);
            take('=');
            int first = parseE(outer);
            take(IN);
            int last = parseE(outer);
            return program.addNode(LET, token, first, last, name);
        }

        private int parseCase(int outer) {
            int token = now;
            pass();
            int first = parseE(outer);
            take(OF);
            take('(');
            long text = tokens.textOf(now);
            int name = parseInnerName(0);
            take(',');
            parseInnerName(text);
            take(')');
            take(IN);
            int last = parseE(outer);
            return program.addNode(CASE, token, first, last, name);
        }

        private int parseIf(int outer) {
            int token = now;
            pass();
            int first = parseE(outer);
            take(THEN);
            int second = parseE(outer);
            take(ELSE);
            int third = parseE(outer);
            return program.addNode(IF, token, first, second, third);
        }

        /** Tier 0 is what < and == join, tier 1 a SUM, tier 2 a PRODUCT, tier 3 an ATOM. */
        private int parseSides(int outer, int tier) {
            if (tier >= 3) {
                return parseAtom(outer);
            }
            int left = parseSides(outer, tier + 1);
            if (!joinsAt(tier)) {
                return left;
            }
            int sign = kind();
            pass();
            int right = parseSides(outer, tier + 1);
            int token = program.hasNode(left) ? program.firstTokens[left] : NONE;
            return program.addNode(sign, token, left, right, NONE);
        }

        private boolean joinsAt(int tier) {
            switch (kind()) {
                case '<':
                case SAME:
                    return tier == 0;
                case '+':
                case '-':
                    return tier == 1;
                case '*':
                    return tier == 2;
                default:
                    return false;
            }
        }

        private int parseAtom(int outer) {
            int token = now;
            switch (kind()) {
                case NUMBER:
                    pass();
                    return program.addNode(NUMBER, token, (int) tokens.textOf(token), NONE, NONE);
                case FAIL:
                    pass();
                    return parseFail(token);
                case NAME:
                    pass();
                    if (kind() == '(') {
                        return parseCall(token, outer);
                    }
                    return program.addNode(NAME, token, NONE, NONE, NONE);
                case '(':
                    pass();
                    return parseInBrackets(token, outer);
                default:
                    stop(FAULT_CANNOT_STAND);
                    return NONE;
            }
        }

        private int parseFail(int token) {
            int type = parseType(0);
            int node = program.addNode(FAIL, token, NONE, NONE, NONE);
            if (program.hasNode(node)) {
                program.types[node] = type;
            }
            return node;
        }

        private int parseInBrackets(int token, int outer) {
            int first = parseE(outer);
            if (kind() != ',') {
                take(')');
                return first;
            }
            pass();
            int second = parseE(outer);
            take(')');
            return program.addNode(PAIR, token, first, second, NONE);
        }

        private int parseCall(int token, int outer) {
            pass();
            int first = NONE;
            int count = 0;
            if (kind() != ')') {
                first = parseE(outer);
                count = 1;
            }
            int latest = first;
            while (count > 0 && count <= MOST_TOKENS && kind() == ',') {
                pass();
                int argument = parseE(outer);
                if (program.hasNode(latest)) {
                    program.next[latest] = argument;
                }
                latest = argument;
                count++;
            }
            take(')');
            return program.addNode(CALL, token, NONE, first, count);
        }
    }

    /** Finds what each NAME means and each EXPRESSION's TYPE, up to the first FAULT. */
    private static final class Typing {
        private final Tokens tokens;
        private final Fault fault;
        private Program program;
        private int f;
        private final int[] scope = new int[MOST_NAMES];
        private int scoped;

        Typing(Tokens tokens, Fault fault) {
            this.tokens = tokens;
            this.fault = fault;
        }

        void judge(Program of) {
            program = of;
            for (int each = 0; each < program.functions && fault.number == 0; each++) {
                f = each;
                scoped = 0;
                for (int p = 0; p < program.params[f]; p++) {
                    open(p);
                }
                typeOf(program.bodies[f], program.answers[f]);
            }
        }

        private void open(int name) {
            if (scoped < MOST_NAMES) {
                scope[scoped] = name;
                scoped++;
            }
        }

        private void tell(int number, int node) {
            fault.tell(number, tokens.startOf(program.firstTokens[node]));
        }

        private int typeOf(int node, int wanted) {
            if (fault.number != 0 || !program.hasNode(node)) {
                return TYPE_NUM;
            }
            int type = ownType(node, wanted);
            program.types[node] = type;
            boolean fits = wanted == WANTED_NOTHING || wanted == type || wanted == WANTED_PAIR && type > TYPE_NUM;
            if (!fits || type == NONE) {
                tell(FAULT_TYPE, node);
            }
            return type;
        }

        private int ownType(int node, int wanted) {
            switch (program.kinds[node]) {
                case NUMBER:
                    return TYPE_NUM;
                case FAIL:
                    return program.types[node];
                case NAME:
                    return typeOfName(node);
                case CALL:
                    return typeOfCall(node);
                case PAIR:
                    return typeOfPair(node, wanted);
                case IF:
                    return typeOfIf(node, wanted);
                case LET:
                    return typeOfLet(node, wanted);
                case CASE:
                    return typeOfCase(node, wanted);
                default:
                    typeOf(program.one[node], TYPE_NUM);
                    typeOf(program.two[node], TYPE_NUM);
                    return TYPE_NUM;
            }
        }

        private int typeOfName(int node) {
            long text = tokens.textOf(program.firstTokens[node]);
            for (int s = scoped - 1; s >= 0; s--) {
                if (program.isNamed(f, scope[s], text)) {
                    program.one[node] = scope[s];
                    return program.nameType(f, scope[s]);
                }
            }
            tell(FAULT_NOT_THERE, node);
            return TYPE_NUM;
        }

        private int typeOfCall(int node) {
            int called = program.functionOf(tokens.textOf(program.firstTokens[node]));
            if (called == NONE) {
                tell(FAULT_NOT_THERE, node);
                return TYPE_NUM;
            }
            if (program.three[node] != program.params[called]) {
                tell(FAULT_TYPE, node);
                return TYPE_NUM;
            }
            program.one[node] = called;
            int argument = program.two[node];
            for (int p = 0; p < program.params[called] && program.hasNode(argument); p++) {
                typeOf(argument, program.nameType(called, p));
                argument = program.next[argument];
            }
            return program.answers[called];
        }

        private int typeOfPair(int node, int wanted) {
            boolean toldPair = wanted > TYPE_NUM;
            int first = typeOf(program.one[node], toldPair ? Shapes.firstOf(wanted) : WANTED_NOTHING);
            int second = typeOf(program.two[node], toldPair ? Shapes.secondOf(wanted) : WANTED_NOTHING);
            return Shapes.pairOf(first, second);
        }

        private int typeOfIf(int node, int wanted) {
            typeOf(program.one[node], TYPE_NUM);
            int second = typeOf(program.two[node], wanted);
            typeOf(program.three[node], wanted < 0 ? second : wanted);
            return second;
        }

        private int typeOfLet(int node, int wanted) {
            int name = program.three[node];
            program.setNameType(f, name, typeOf(program.one[node], WANTED_NOTHING));
            int outer = scoped;
            open(name);
            int type = typeOf(program.two[node], wanted);
            scoped = outer;
            return type;
        }

        private int typeOfCase(int node, int wanted) {
            int name = program.three[node];
            int pair = typeOf(program.one[node], WANTED_PAIR);
            program.setNameType(f, name, Shapes.firstOf(pair));
            program.setNameType(f, name + 1, Shapes.secondOf(pair));
            int outer = scoped;
            open(name);
            open(name + 1);
            int type = typeOf(program.two[node], wanted);
            scoped = outer;
            return type;
        }
    }

    /** The ROWS, and what EXPRESSIONS ASK by them. */
    private static final class Rows {
        // An E has at most four EXPRESSIONS one in the other (a comparison, a SUM, a PRODUCT, a pair
        // or call) before the next E begins.
        private static final int SHEETS = 4 * MOST_OUTER + 4;

        boolean settled = false;
        private Program program;
        private int f;
        private final int[] demands = new int[MOST_FUNCTIONS * MOST_DEMANDS * MOST_PARAMS];
        private final boolean[] deadRows = new boolean[MOST_FUNCTIONS * MOST_DEMANDS];
        // What EXPRESSIONS ask, a sheet for each level of them that is open, a DEMAND a NAME.
        private final int[] sheets = new int[SHEETS * MOST_NAMES];
        private final boolean[] deadSheets = new boolean[SHEETS];

        void forget() {
            settled = false;
        }

        boolean isDead(int function, int d) {
            int row = rowOf(function, d);
            return row != NONE && deadRows[row];
        }

        int demandOf(int function, int d, int param) {
            int row = rowOf(function, d);
            return row == NONE || param < 0 || param >= MOST_PARAMS ? 0 : demands[row * MOST_PARAMS + param];
        }

        /** A DEAD ROW holds ALL for each PARAM, so the others need no change. */
        void put(int function, int d, int param, int v) {
            int row = rowOf(function, d);
            if (row != NONE && param >= 0 && param < MOST_PARAMS) {
                demands[row * MOST_PARAMS + param] = v;
                deadRows[row] = false;
            }
        }

        int settle(Program of) {
            program = of;
            settled = true;
            killAll();
            for (int n = 1; n < FAR_ABOVE; n++) {
                if (!changesInRound()) {
                    return n;
                }
            }
            return FAR_ABOVE;
        }

        int firstTooMuch() {
            for (int each = 0; each < program.functions; each++) {
                f = each;
                int count = Shapes.demandsOf(program.answers[f]);
                for (int d = 1; d < count; d++) {
                    weigh(program.bodies[f], d, 0);
                    if (tellsTooMuch(d)) {
                        return 32 * f + d;
                    }
                }
            }
            return NONE;
        }

        private int rowOf(int function, int d) {
            if (function < 0 || function >= MOST_FUNCTIONS || d < 0 || d >= MOST_DEMANDS) {
                return NONE;
            }
            return function * MOST_DEMANDS + d;
        }

        private void killAll() {
            for (int each = 0; each < program.functions; each++) {
                f = each;
                int count = Shapes.demandsOf(program.answers[f]);
                for (int d = 1; d < count; d++) {
                    deadSheets[0] = true;
                    takeFirstSheet(d);
                }
            }
        }

        private boolean changesInRound() {
            boolean changes = false;
            for (int each = 0; each < program.functions; each++) {
                f = each;
                int count = Shapes.demandsOf(program.answers[f]);
                for (int d = 1; d < count; d++) {
                    weigh(program.bodies[f], d, 0);
                    changes = takeFirstSheet(d) || changes;
                }
            }
            return changes;
        }

        /** The ROW becomes what the first sheet says: whether that changes it. */
        private boolean takeFirstSheet(int d) {
            int row = rowOf(f, d);
            if (row == NONE) {
                return false;
            }
            boolean changes = deadRows[row] != deadSheets[0];
            deadRows[row] = deadSheets[0];
            for (int p = 0; p < program.params[f]; p++) {
                int asked = deadSheets[0] ? Shapes.allOf(program.nameType(f, p)) : sheets[p];
                changes = changes || demands[row * MOST_PARAMS + p] != asked;
                demands[row * MOST_PARAMS + p] = asked;
            }
            return changes;
        }

        private boolean tellsTooMuch(int d) {
            if (deadSheets[0]) {
                return false;
            }
            if (isDead(f, d)) {
                return true;
            }
            for (int p = 0; p < program.params[f]; p++) {
                int has = demandOf(f, d, p);
                if (Shapes.either(program.nameType(f, p), has, sheets[p]) != has) {
                    return true;
                }
            }
            return false;
        }

        /** Writes what a node ASKS by d on the sheet of a level; the sheets above are free to use. */
        private void weigh(int node, int d, int level) {
            if (level < 0 || level >= SHEETS || !program.hasNode(node)) {
                return;
            }
            int sheet = level * MOST_NAMES;
            Arrays.fill(sheets, sheet, sheet + program.names[f], 0);
            deadSheets[level] = false;
            switch (program.kinds[node]) {
                case NUMBER:
                    break;
                case FAIL:
                    deadSheets[level] = true;
                    break;
                case NAME:
                    if (program.hasName(f, program.one[node])) {
                        sheets[sheet + program.one[node]] = d;
                    }
                    break;
                case IF:
                    weighIf(node, d, level);
                    break;
                case LET:
                    weighLet(node, d, level);
                    break;
                case CASE:
                    weighCase(node, d, level);
                    break;
                case PAIR:
                    weighTogether(program.one[node], Shapes.askedOfFirst(program.types[node], d), level);
                    weighTogether(program.two[node], Shapes.askedOfSecond(program.types[node], d), level);
                    break;
                case CALL:
                    weighCall(node, d, level);
                    break;
                default:
                    weighTogether(program.one[node], 1, level);
                    weighTogether(program.two[node], 1, level);
            }
        }

        /** What a node ASKS, if d is something, comes to what stands on the sheet; a DEAD one stays that. */
        private void weighTogether(int node, int d, int level) {
            if (d == 0 || deadSheets[level] || level + 1 >= SHEETS) {
                return;
            }
            weigh(node, d, level + 1);
            deadSheets[level] = deadSheets[level + 1];
            int sheet = level * MOST_NAMES;
            for (int n = 0; n < program.names[f]; n++) {
                int other = sheets[sheet + MOST_NAMES + n];
                if (other != 0) {
                    sheets[sheet + n] = Shapes.together(program.nameType(f, n), sheets[sheet + n], other);
                }
            }
        }

        private void weighIf(int node, int d, int level) {
            if (level + 1 >= SHEETS) {
                return;
            }
            weigh(program.two[node], d, level);
            weigh(program.three[node], d, level + 1);
            takeEither(level);
            weighTogether(program.one[node], 1, level);
        }

        private void takeEither(int level) {
            int sheet = level * MOST_NAMES;
            if (deadSheets[level + 1]) {
                return;
            }
            for (int n = 0; n < program.names[f]; n++) {
                int other = sheets[sheet + MOST_NAMES + n];
                int own = sheets[sheet + n];
                sheets[sheet + n] = deadSheets[level] ? other : Shapes.either(program.nameType(f, n), own, other);
            }
            deadSheets[level] = false;
        }

        private void weighLet(int node, int d, int level) {
            weigh(program.two[node], d, level);
            weighTogether(program.one[node], onSheet(level, program.three[node]), level);
        }

        private void weighCase(int node, int d, int level) {
            weigh(program.two[node], d, level);
            int first = program.one[node];
            if (program.hasNode(first)) {
                int a = onSheet(level, program.three[node]);
                int b = onSheet(level, program.three[node] + 1);
                weighTogether(first, Shapes.pairDemand(program.types[first], a, b), level);
            }
        }

        private int onSheet(int level, int name) {
            return program.hasName(f, name) ? sheets[level * MOST_NAMES + name] : 0;
        }

        private void weighCall(int node, int d, int level) {
            int called = program.one[node];
            if (isDead(called, d)) {
                deadSheets[level] = true;
                return;
            }
            int argument = program.two[node];
            for (int p = 0; p < program.three[node] && program.hasNode(argument); p++) {
                weighTogether(argument, demandOf(called, d, p), level);
                argument = program.next[argument];
            }
        }
    }

    private static final class Inputs {
        int count = 0;
        private final int[] kinds = new int[MOST_INPUTS];
        private final int[] values = new int[MOST_INPUTS];

        void add(int kind, int value) {
            if (count < MOST_INPUTS) {
                kinds[count] = kind;
                values[count] = value;
                count++;
            }
        }

        boolean fit(Program program, int f) {
            int from = 0;
            for (int p = 0; p < program.params[f]; p++) {
                from = behind(program.nameType(f, p), from);
            }
            return from == count;
        }

        /** Where the INPUTS behind those for one thing of a TYPE begin; NONE, if they are not for it. */
        private int behind(int type, int from) {
            if (from < 0 || from >= count) {
                return NONE;
            }
            if (kinds[from] == INPUT_UNDEFINED) {
                return from + 1;
            }
            if (type <= TYPE_NUM) {
                return kinds[from] == INPUT_NUMBER ? from + 1 : NONE;
            }
            if (kinds[from] != INPUT_PAIR) {
                return NONE;
            }
            return behind(Shapes.secondOf(type), behind(Shapes.firstOf(type), from + 1));
        }
    }

    /** THINGS and PAIRS of a run. The INPUTS' ones stand behind all that can be counted. */
    private static final class Things {
        private static final int WAITS = 0;
        private static final int WORKED = 1;
        private static final int DONE = 2;
        private static final int UNDEFINED = 3;

        int made = 0;
        int pairs = 0;
        private final int[] nodes = new int[MOST_MADE];
        private final int[] frames = new int[MOST_MADE];
        private final int[] states = new int[MOST_MADE + MOST_INPUTS];
        private final int[] values = new int[MOST_MADE + MOST_INPUTS];
        private final boolean[] wereNeeded = new boolean[MOST_MADE + MOST_INPUTS];
        private final int[] firsts = new int[MOST_MADE + MOST_INPUTS];
        private final int[] seconds = new int[MOST_MADE + MOST_INPUTS];

        void clear() {
            made = 0;
            pairs = 0;
        }

        boolean has(int thing) {
            return thing >= 0 && thing < MOST_MADE + MOST_INPUTS;
        }

        boolean hasValue(int thing) {
            return has(thing) && states[thing] == DONE;
        }

        int add(int node, int frame) {
            if (made >= MOST_MADE) {
                return NONE;
            }
            int thing = made;
            made++;
            nodes[thing] = node;
            frames[thing] = frame;
            states[thing] = WAITS;
            wereNeeded[thing] = false;
            return thing;
        }

        int addPair() {
            if (pairs >= MOST_MADE) {
                return NONE;
            }
            pairs++;
            return pairs - 1;
        }

        int neverNeeded() {
            int count = 0;
            for (int thing = 0; thing < made; thing++) {
                if (!wereNeeded[thing]) {
                    count++;
                }
            }
            return count;
        }

        /** Makes the THING of an INPUT, and those of its parts: where the INPUTS behind them begin. */
        int lay(Inputs inputs, int from) {
            if (from < 0 || from >= inputs.count) {
                return NONE;
            }
            int thing = MOST_MADE + from;
            int kind = inputs.kinds[from];
            states[thing] = kind == INPUT_UNDEFINED ? UNDEFINED : DONE;
            values[thing] = kind == INPUT_PAIR ? thing : inputs.values[from];
            wereNeeded[thing] = false;
            if (kind != INPUT_PAIR) {
                return from + 1;
            }
            int second = lay(inputs, from + 1);
            firsts[thing] = thing + 1;
            seconds[thing] = MOST_MADE + second;
            return lay(inputs, second);
        }
    }

    /**
     * Runs a FUNCTION. What is being worked out stands in a row of its own, one place a DEPTH, as 150
     * DEPTHS are too many for calls of methods.
     */
    private static final class Machine {
        final Things things = new Things();
        int ran = NONE;
        int ended = GOES_ON;
        int steps = 0;
        int calls = 0;
        int deepest = 0;
        private Program program;
        private int mostSteps;
        private int depth = 0;
        private int value = 0;
        private int answer = 0;
        // An EXPRESSION is worked out once a CALL at most, so each NAME has one THING a CALL.
        private final int[] frames = new int[(MOST_MADE + 1) * MOST_NAMES];
        private final int[] openNodes = new int[MOST_DEPTH];
        private final int[] openFrames = new int[MOST_DEPTH];
        private final int[] openPhases = new int[MOST_DEPTH];
        private final int[] openLefts = new int[MOST_DEPTH];

        void forget() {
            things.clear();
            ran = NONE;
            ended = GOES_ON;
            steps = 0;
            calls = 0;
            deepest = 0;
            depth = 0;
        }

        void start(Program of, int f, int most, Inputs inputs) {
            forget();
            program = of;
            ran = f;
            mostSteps = most;
            int from = 0;
            for (int p = 0; p < program.params[f]; p++) {
                bind(0, p, MOST_MADE + from);
                from = things.lay(inputs, from);
            }
        }

        void perform(int d) {
            workOut(program.bodies[ran], 0);
            answer = value;
            needParts(answer, program.answers[ran], d);
            if (ended == GOES_ON) {
                ended = END_DONE;
            }
        }

        boolean wasParamNeeded(int param) {
            int thing = thingOf(0, param);
            return things.has(thing) && things.wereNeeded[thing];
        }

        boolean hasNumber(int part) {
            if (ended != END_DONE || typeAt(part) != TYPE_NUM) {
                return false;
            }
            return part == 0 || things.hasValue(thingAt(part));
        }

        int numberAt(int part) {
            if (part == 0) {
                return answer;
            }
            int thing = thingAt(part);
            return things.has(thing) ? things.values[thing] : 0;
        }

        /** Part p has the parts 2 p + 1 and 2 p + 2. */
        private int typeAt(int part) {
            if (part <= 0) {
                return program.answers[ran];
            }
            int whole = typeAt((part - 1) / 2);
            if (whole <= TYPE_NUM) {
                return NONE;
            }
            return part % 2 == 1 ? Shapes.firstOf(whole) : Shapes.secondOf(whole);
        }

        private int thingAt(int part) {
            int pair = answer;
            if (part > 2) {
                int whole = thingAt((part - 1) / 2);
                if (!things.hasValue(whole)) {
                    return NONE;
                }
                pair = things.values[whole];
            }
            if (!things.has(pair)) {
                return NONE;
            }
            return part % 2 == 1 ? things.firsts[pair] : things.seconds[pair];
        }

        private void needParts(int pair, int type, int d) {
            if (type > TYPE_NUM && ended == GOES_ON && things.has(pair)) {
                needPart(things.firsts[pair], Shapes.firstOf(type), Shapes.askedOfFirst(type, d));
                needPart(things.seconds[pair], Shapes.secondOf(type), Shapes.askedOfSecond(type, d));
            }
        }

        private void needPart(int thing, int type, int d) {
            if (d == 0 || ended != GOES_ON) {
                return;
            }
            if (isToBeWorked(thing)) {
                workOut(things.nodes[thing], things.frames[thing]);
                settle(thing);
            }
            needParts(value, type, d);
        }

        private void workOut(int node, int frame) {
            enter(node, frame);
            for (int turns = 0; turns < FAR_ABOVE && depth > 0 && ended == GOES_ON; turns++) {
                goOn(depth - 1);
            }
        }

        private void enter(int node, int frame) {
            if (steps >= mostSteps) {
                ended = END_STEPS;
            } else if (depth >= MOST_DEPTH) {
                ended = END_DEPTH;
            } else {
                steps++;
                openNodes[depth] = node;
                openFrames[depth] = frame;
                openPhases[depth] = 0;
                depth++;
                deepest = Math.max(deepest, depth);
            }
        }

        private void leave(int with) {
            value = with;
            depth--;
        }

        /** The EXPRESSION on top goes on to the next one that is to be worked out for it, or is done. */
        private void goOn(int top) {
            int node = openNodes[top];
            if (!program.hasNode(node)) {
                ended = END_UNDEFINED;
                return;
            }
            switch (program.kinds[node]) {
                case NUMBER:
                    leave(program.one[node]);
                    break;
                case FAIL:
                    ended = END_UNDEFINED;
                    break;
                case NAME:
                    goOnName(node, top);
                    break;
                case IF:
                    goOnIf(node, top);
                    break;
                case LET:
                    goOnLet(node, top);
                    break;
                case CASE:
                    goOnCase(node, top);
                    break;
                case PAIR:
                    makePair(node, openFrames[top]);
                    break;
                case CALL:
                    goOnCall(node, top);
                    break;
                default:
                    goOnSign(node, top);
            }
        }

        private int nextPhase(int top) {
            int phase = openPhases[top];
            openPhases[top]++;
            return phase;
        }

        private void goOnName(int node, int top) {
            int thing = thingOf(openFrames[top], program.one[node]);
            if (nextPhase(top) > 0) {
                settle(thing);
                leave(value);
            } else if (isToBeWorked(thing)) {
                enter(things.nodes[thing], things.frames[thing]);
            } else if (ended == GOES_ON) {
                leave(value);
            }
        }

        /** Needs a THING: whether its EXPRESSION is to be worked out; if not, its value is there or the run ends. */
        private boolean isToBeWorked(int thing) {
            if (!things.has(thing)) {
                ended = END_UNDEFINED;
                return false;
            }
            things.wereNeeded[thing] = true;
            if (things.states[thing] == Things.DONE) {
                value = things.values[thing];
                return false;
            }
            if (things.states[thing] != Things.WAITS || thing >= MOST_MADE) {
                ended = END_UNDEFINED;
                return false;
            }
            things.states[thing] = Things.WORKED;
            return true;
        }

        private void settle(int thing) {
            if (things.has(thing) && ended == GOES_ON) {
                things.states[thing] = Things.DONE;
                things.values[thing] = value;
            }
        }

        private void goOnSign(int node, int top) {
            int frame = openFrames[top];
            switch (nextPhase(top)) {
                case 0:
                    enter(program.one[node], frame);
                    break;
                case 1:
                    openLefts[top] = value;
                    enter(program.two[node], frame);
                    break;
                default:
                    leave(reckon(program.kinds[node], openLefts[top], value));
            }
        }

        private int reckon(int sign, int left, int right) {
            switch (sign) {
                case '+':
                    return left + right;
                case '-':
                    return left - right;
                case '*':
                    return left * right;
                case '<':
                    return left < right ? 1 : 0;
                default:
                    return left == right ? 1 : 0;
            }
        }

        private void goOnIf(int node, int top) {
            int frame = openFrames[top];
            switch (nextPhase(top)) {
                case 0:
                    enter(program.one[node], frame);
                    break;
                case 1:
                    enter(value == 0 ? program.three[node] : program.two[node], frame);
                    break;
                default:
                    leave(value);
            }
        }

        private void goOnLet(int node, int top) {
            int frame = openFrames[top];
            if (nextPhase(top) > 0) {
                leave(value);
                return;
            }
            bind(frame, program.three[node], thingFor(program.one[node], frame));
            if (ended == GOES_ON) {
                enter(program.two[node], frame);
            }
        }

        private void goOnCase(int node, int top) {
            int frame = openFrames[top];
            switch (nextPhase(top)) {
                case 0:
                    enter(program.one[node], frame);
                    break;
                case 1:
                    if (things.has(value)) {
                        bind(frame, program.three[node], things.firsts[value]);
                        bind(frame, program.three[node] + 1, things.seconds[value]);
                    }
                    enter(program.two[node], frame);
                    break;
                default:
                    leave(value);
            }
        }

        private void makePair(int node, int frame) {
            int pair = things.addPair();
            if (pair == NONE) {
                ended = END_MADE;
                return;
            }
            things.firsts[pair] = thingFor(program.one[node], frame);
            things.seconds[pair] = thingFor(program.two[node], frame);
            leave(pair);
        }

        private void goOnCall(int node, int top) {
            if (nextPhase(top) > 0) {
                leave(value);
                return;
            }
            if (calls >= MOST_MADE || !program.hasFunction(program.one[node])) {
                ended = END_MADE;
                return;
            }
            calls++;
            int frame = calls;
            int argument = program.two[node];
            for (int p = 0; p < program.three[node] && program.hasNode(argument); p++) {
                bind(frame, p, thingFor(argument, openFrames[top]));
                argument = program.next[argument];
            }
            if (ended == GOES_ON) {
                enter(program.bodies[program.one[node]], frame);
            }
        }

        /** The THING for an argument, a part or a let's first E; a NAME alone brings its own one. */
        private int thingFor(int node, int frame) {
            if (program.hasNode(node) && program.kinds[node] == NAME) {
                return thingOf(frame, program.one[node]);
            }
            int thing = things.add(node, frame);
            if (thing == NONE) {
                ended = END_MADE;
            }
            return thing;
        }

        private int thingOf(int frame, int name) {
            return isPlace(frame, name) ? frames[frame * MOST_NAMES + name] : NONE;
        }

        private void bind(int frame, int name, int thing) {
            if (isPlace(frame, name)) {
                frames[frame * MOST_NAMES + name] = thing;
            }
        }

        private boolean isPlace(int frame, int name) {
            return frame >= 0 && frame <= MOST_MADE && name >= 0 && name < MOST_NAMES;
        }
    }
}
