/**
 * Each refused call throws what its promise names (the one named first, where several could be) and changes
 * nothing: an object that got it and a twin that did not show the same by all that can be asked of them. So it
 * is with texts that have a FAULT.
 */
public final class RefusedTest {
    interface State {
        void bring(Calls c);
    }

    interface Act {
        long on(StrictProofs x);
    }

    private static final int MIN = Integer.MIN_VALUE;
    private static final int MAX = Integer.MAX_VALUE;
    private static final int[] FAR = {MIN, -1, MAX};
    private static final String PROGRAM = "f(x:num,p:(num,num)):(num,num)=case p of (a,b) in (a+x,b);g(y:num):num=g(y);h():num=3;";
    private static final String ON_TAPE = "k(a:num):num=a*11;";

    public static void main(String[] args) {
        feeds();
        cuts();
        functions();
        withoutProgram();
        withoutRounds();
        rowsThatAreNone();
        paramsThatAreNone();
        demandsThatAreNone();
        inputs();
        runsOfNone();
        runsOfTooManySteps();
        runsWithOtherInputs();
        told();
        resultsThatAreNone();
        resultsBeforeAndBesideARun();
        needed();
        textsWithFaults();
        Calls.end();
    }

    private static void refused(String exception, State state, Act act) {
        Calls touched = new Calls();
        state.bring(touched);
        Calls.dueText("throws." + exception, Calls.answerOf(() -> act.on(touched.x)));
        Calls twin = new Calls();
        state.bring(twin);
        Calls.dueText(shown(twin.x), shown(touched.x));
    }

    private static void refusedState(State state, Act act) {
        refused("IllegalStateException", state, act);
    }

    private static void refusedArgument(State state, Act act) {
        refused("IllegalArgumentException", state, act);
    }

    private static void refusedIndex(State state, Act act) {
        refused("IndexOutOfBoundsException", state, act);
    }

    private static void madeNew(Calls c) {
    }

    /** A text with a fault was read: no PROGRAM, but a place, a tape, and inputs. */
    private static void faulty(Calls c) {
        c.tape("  f(").x.read();
        c.tape(ON_TAPE).inputs("4 p 5 6");
    }

    private static void readOnly(Calls c) {
        c.tape(PROGRAM).x.read();
        c.tape(ON_TAPE).inputs("4 p 5 6");
    }

    /** All that can be is there: ROWS, two of them planted, a run, a place, a tape, inputs for another run. */
    private static void worked(Calls c) {
        c.tape(PROGRAM).x.read();
        c.x.rounds();
        c.x.plant(0, 3, 0, 0);
        c.x.plant(0, 2, 1, 4);
        c.inputs("1 p 2 3").x.run(0, 4, 100);
        c.tape(" f(").x.read();
        c.tape(ON_TAPE).inputs("4 p 5 6");
    }

    private static void ranUndefined(Calls c) {
        worked(c);
        c.x.run(0, 4, 100);
        c.inputs("1 p u 3").x.run(0, 4, 100);
        c.inputs("4 p 5 6");
    }

    private static void tapeOf(Calls c, int size) {
        worked(c);
        c.x.cut(0);
        c.tape(ON_TAPE + " ".repeat(size - ON_TAPE.length()));
    }

    private static void allInputs(Calls c) {
        worked(c);
        for (int n = 4; n < 40; n++) {
            c.x.input(n % 3, n);
        }
    }

    /** All that an object shows: first what is asked without a change, then what comes of its INPUTS, ROWS and TAPE. */
    private static String shown(StrictProofs x) {
        StringBuilder all = new StringBuilder();
        add(all, x::place);
        showFunctions(all, x);
        showRows(all, x);
        showRun(all, x);
        add(all, () -> x.run(0, 4, 1000));
        showRun(all, x);
        add(all, () -> x.input(0, 9));
        add(all, x::rounds);
        showRows(all, x);
        add(all, x::read);
        add(all, x::place);
        showFunctions(all, x);
        add(all, () -> x.run(0, 1, 1000));
        add(all, () -> x.result(0));
        return all.toString();
    }

    private static void add(StringBuilder all, Calls.Call call) {
        all.append(Calls.answerOf(call)).append(' ');
    }

    private static void showFunctions(StringBuilder all, StrictProofs x) {
        for (int f = 0; f < 4; f++) {
            for (int what = 0; what < 6; what++) {
                int g = f;
                int w = what;
                add(all, () -> x.function(g, w));
            }
        }
    }

    private static void showRows(StringBuilder all, StrictProofs x) {
        for (int d = 1; d <= 4; d++) {
            int e = d;
            add(all, () -> x.dead(0, e) ? 1 : 0);
            add(all, () -> x.asks(0, e, 0));
            add(all, () -> x.asks(0, e, 1));
        }
        add(all, () -> x.dead(1, 1) ? 1 : 0);
        add(all, () -> x.asks(1, 1, 0));
        add(all, () -> x.dead(2, 1) ? 1 : 0);
        add(all, () -> x.strict(0, 0) ? 1 : 0);
        add(all, () -> x.strict(0, 1) ? 1 : 0);
        add(all, x::check);
    }

    private static void showRun(StringBuilder all, StrictProofs x) {
        for (int what = 0; what < 7; what++) {
            int w = what;
            add(all, () -> x.told(w));
            add(all, () -> x.result(w));
        }
        for (int param = 0; param < 3; param++) {
            int p = param;
            add(all, () -> x.needed(p) ? 1 : 0);
        }
    }

    private static void feeds() {
        for (int size : new int[] {3981, 3990, 3999, 4000}) {
            refusedState(c -> tapeOf(c, size), x -> x.feed(0, 0, 0, 0, 0));
            refusedState(c -> tapeOf(c, size), x -> x.feed(MIN, MAX, -1, 1, MIN));
        }
        // beside it: there is just room
        Calls c = new Calls();
        tapeOf(c, 3980);
        Calls.due(4000, () -> c.x.feed(0, 0, 0, 0, 0));
        Calls.due(-1, c.x::read);
        Calls.due(3980, c.x::place);
    }

    private static void cuts() {
        for (int n : FAR) {
            refusedArgument(RefusedTest::madeNew, x -> x.cut(n));
            refusedArgument(RefusedTest::worked, x -> x.cut(n));
        }
        refusedArgument(RefusedTest::madeNew, x -> x.cut(1));
        refusedArgument(RefusedTest::worked, x -> x.cut(ON_TAPE.length() + 1));
        refusedArgument(c -> tapeOf(c, 4000), x -> x.cut(4001));
        refusedArgument(c -> tapeOf(c, 4000), x -> x.cut(-1));
        for (int n : new int[] {0, ON_TAPE.length()}) {
            Calls c = new Calls();
            worked(c);
            Calls.due(ON_TAPE.length() - n, () -> c.x.cut(n));
        }
    }

    private static void functions() {
        int[][] none = {{3, 0}, {0, 5}, {1, 4}, {2, 3}, {0, -1}, {3, -1}, {-1, 9}};
        for (int[] n : none) {
            refusedIndex(RefusedTest::worked, x -> x.function(n[0], n[1]));
        }
        for (int n : FAR) {
            refusedIndex(RefusedTest::worked, x -> x.function(n, 0));
            refusedIndex(RefusedTest::worked, x -> x.function(0, n));
        }
        refusedIndex(RefusedTest::madeNew, x -> x.function(0, 0));
        refusedIndex(RefusedTest::faulty, x -> x.function(0, 0));
        int[][] last = {{0, 4, 5}, {1, 3, 2}, {2, 2, 2}, {2, 0, 0}};
        for (int[] n : last) {
            Calls c = new Calls();
            worked(c);
            Calls.due(n[2], () -> c.x.function(n[0], n[1]));
        }
    }

    private static void withoutProgram() {
        State[] states = {RefusedTest::madeNew, RefusedTest::faulty};
        for (State s : states) {
            refusedState(s, x -> x.rounds());
            refusedState(s, x -> x.run(0, 1, 10));
            refusedState(s, x -> x.run(0, 1, -1));
            refusedState(s, x -> x.run(-1, 0, 20001));
        }
    }

    private static void withoutRounds() {
        State[] states = {RefusedTest::madeNew, RefusedTest::faulty, RefusedTest::readOnly};
        for (State s : states) {
            refusedState(s, x -> x.dead(0, 1) ? 1 : 0);
            refusedState(s, x -> x.dead(-1, 0) ? 1 : 0);
            refusedState(s, x -> x.asks(0, 1, 0));
            refusedState(s, x -> x.asks(3, 5, 2));
            refusedState(s, x -> x.strict(0, 0) ? 1 : 0);
            refusedState(s, x -> x.strict(3, -1) ? 1 : 0);
            refusedState(s, x -> x.plant(0, 1, 0, 0));
            refusedState(s, x -> x.plant(0, 1, 0, 2));
            refusedState(s, x -> x.plant(-1, 0, 9, -1));
            refusedState(s, x -> x.check());
        }
        // the rounds() of an earlier PROGRAM are not those of this one
        State again = c -> {
            worked(c);
            c.x.cut(0);
            c.tape(PROGRAM).x.read();
        };
        refusedState(again, x -> x.check());
        refusedState(again, x -> x.dead(0, 1) ? 1 : 0);
        refusedState(again, x -> x.asks(0, 1, 0));
        refusedState(again, x -> x.strict(0, 0) ? 1 : 0);
        refusedState(again, x -> x.plant(0, 1, 0, 0));
    }

    private static void rowsThatAreNone() {
        int[][] none = {{3, 1}, {-1, 1}, {0, 0}, {0, 5}, {0, -1}, {1, 0}, {1, 2}, {2, 0}, {2, 2}, {MIN, 1}, {MAX, 1}, {0, MIN}, {0, MAX}};
        for (int[] n : none) {
            refusedIndex(RefusedTest::worked, x -> x.dead(n[0], n[1]) ? 1 : 0);
            refusedIndex(RefusedTest::worked, x -> x.asks(n[0], n[1], 0));
            refusedIndex(RefusedTest::worked, x -> x.plant(n[0], n[1], 0, 0));
            refusedIndex(RefusedTest::worked, x -> x.plant(n[0], n[1], 0, -1));
            refusedIndex(RefusedTest::worked, x -> x.plant(n[0], n[1], 0, 26));
        }
        Calls c = new Calls();
        worked(c);
        Calls.dueYes(false, () -> c.x.dead(0, 1));
        Calls.dueYes(false, () -> c.x.dead(0, 4));
        Calls.dueYes(true, () -> c.x.dead(1, 1));
        Calls.dueYes(false, () -> c.x.dead(2, 1));
    }

    private static void paramsThatAreNone() {
        int[][] none = {{0, -1}, {0, 2}, {1, 1}, {2, 0}, {3, 0}, {-1, 0}, {0, MIN}, {0, MAX}, {MIN, 0}, {MAX, 0}};
        for (int[] n : none) {
            refusedIndex(RefusedTest::worked, x -> x.asks(n[0], 1, n[1]));
            refusedIndex(RefusedTest::worked, x -> x.strict(n[0], n[1]) ? 1 : 0);
            refusedIndex(RefusedTest::worked, x -> x.plant(n[0], 1, n[1], 0));
            refusedIndex(RefusedTest::worked, x -> x.plant(n[0], 1, n[1], -1));
        }
        Calls c = new Calls();
        worked(c);
        Calls.due(1, () -> c.x.asks(0, 1, 1));
        Calls.dueYes(true, () -> c.x.strict(0, 1));
        Calls.due(1, () -> c.x.asks(1, 1, 0));
    }

    private static void demandsThatAreNone() {
        // of a ROW that is DEAD, one that was planted, and others
        int[][] rows = {{1, 1, 0, 2}, {0, 3, 0, 2}, {0, 2, 1, 5}, {0, 4, 1, 5}, {0, 1, 0, 2}};
        for (int[] r : rows) {
            refusedArgument(RefusedTest::worked, x -> x.plant(r[0], r[1], r[2], r[3]));
            for (int v : FAR) {
                refusedArgument(RefusedTest::worked, x -> x.plant(r[0], r[1], r[2], v));
            }
            Calls c = new Calls();
            worked(c);
            int had = c.x.asks(r[0], r[1], r[2]);
            Calls.due(had, () -> c.x.plant(r[0], r[1], r[2], r[3] - 1));
            Calls.due(r[3] - 1, () -> c.x.plant(r[0], r[1], r[2], 0));
            Calls.due(0, () -> c.x.asks(r[0], r[1], r[2]));
        }
    }

    private static void inputs() {
        for (int kind : new int[] {MIN, -1, 3, MAX}) {
            refusedArgument(RefusedTest::madeNew, x -> x.input(kind, 0));
            refusedArgument(RefusedTest::worked, x -> x.input(kind, 5));
            // that is named ahead of there being 40
            refusedArgument(RefusedTest::allInputs, x -> x.input(kind, 5));
        }
        for (int kind = 0; kind <= 2; kind++) {
            int k = kind;
            refusedState(RefusedTest::allInputs, x -> x.input(k, 5));
        }
        Calls c = new Calls();
        for (int n = 1; n <= 40; n++) {
            int m = n;
            Calls.due(m, () -> c.x.input(0, m));
        }
        Calls.dueState(() -> c.x.input(0, 41));
    }

    private static void runsOfNone() {
        int[][] none = {{3, 1}, {-1, 1}, {0, 0}, {0, 5}, {0, -1}, {1, 0}, {1, 2}, {2, 0}, {2, 2}, {MIN, 1}, {MAX, 1}, {0, MIN}, {0, MAX}};
        for (int[] n : none) {
            refusedIndex(RefusedTest::worked, x -> x.run(n[0], n[1], 10));
            refusedIndex(RefusedTest::readOnly, x -> x.run(n[0], n[1], 10));
            refusedIndex(RefusedTest::worked, x -> x.run(n[0], n[1], -1));
            refusedIndex(RefusedTest::allInputs, x -> x.run(n[0], n[1], 20001));
        }
    }

    private static void runsOfTooManySteps() {
        for (int steps : new int[] {MIN, -1, 20001, MAX}) {
            refusedArgument(RefusedTest::worked, x -> x.run(0, 4, steps));
            refusedArgument(RefusedTest::readOnly, x -> x.run(0, 1, steps));
            refusedArgument(RefusedTest::worked, x -> x.run(1, 1, steps));
        }
        for (int steps : new int[] {0, 20000}) {
            Calls c = new Calls();
            worked(c);
            Calls.due(steps == 0 ? 3 : 1, () -> c.x.run(0, 4, steps));
            Calls.due(0, () -> c.x.told(6));
        }
    }

    private static State with(String inputs) {
        return c -> {
            worked(c);
            c.x.run(0, 4, 100);
            c.inputs(inputs);
        };
    }

    private static void runsWithOtherInputs() {
        String[] notOfF = {"", "1", "1 p", "1 p 2", "1 p 2 3 4", "1 2", "1 2 3", "p 1 2 3", "p 1 2 u", "1 p p 2 3 4", "1 p 2 p", "u", "u u u", "1 u u"};
        for (String inputs : notOfF) {
            refusedArgument(with(inputs), x -> x.run(0, 4, 100));
            refusedArgument(with(inputs), x -> x.run(0, 1, 0));
        }
        refusedArgument(with(""), x -> x.run(1, 1, 100));
        refusedArgument(with("1 2"), x -> x.run(1, 1, 100));
        refusedArgument(with("p"), x -> x.run(1, 1, 100));
        refusedArgument(with("1"), x -> x.run(2, 1, 100));
        refusedArgument(with("u"), x -> x.run(2, 1, 100));
        refusedArgument(RefusedTest::allInputs, x -> x.run(0, 4, 100));
        for (String inputs : new String[] {"1 p 2 3", "u p 2 3", "1 u", "u u", "1 p u 3", "1 p 2 u", "u p u u"}) {
            Calls c = new Calls();
            with(inputs).bring(c);
            Calls.due(inputs.equals("1 p 2 3") ? 1 : 2, () -> c.x.run(0, 4, 100));
            Calls.due(0, () -> c.x.told(6));
        }
    }

    private static void told() {
        for (int what : new int[] {MIN, -1, 7, MAX}) {
            refusedIndex(RefusedTest::madeNew, x -> x.told(what));
            refusedIndex(RefusedTest::worked, x -> x.told(what));
        }
    }

    private static void resultsThatAreNone() {
        for (int part : new int[] {MIN, -1, 0, 3, 4, 5, 6, 7, MAX}) {
            refusedIndex(RefusedTest::worked, x -> x.result(part));
        }
        Calls c = new Calls();
        worked(c);
        Calls.due(3, () -> c.x.result(1));
        Calls.due(3, () -> c.x.result(2));
    }

    private static void resultsBeforeAndBesideARun() {
        State[] states = {RefusedTest::madeNew, RefusedTest::faulty, RefusedTest::readOnly, RefusedTest::ranUndefined};
        for (State s : states) {
            for (int part = 0; part <= 6; part++) {
                int p = part;
                refusedIndex(s, x -> x.result(p));
            }
        }
        // a part that was not asked for has no value
        State second = c -> {
            worked(c);
            c.x.run(0, 2, 100);
        };
        refusedIndex(second, x -> x.result(1));
        Calls c = new Calls();
        second.bring(c);
        Calls.due(6, () -> c.x.result(2));
    }

    /**
     * The first sign of each is its FAULT's number. Nothing of the text stays but the place: the twin reads one
     * that has nothing but a wrong byte there.
     */
    private static void textsWithFaults() {
        String[] faults = {
            "2|", "1|#", "2  \n|", "2f():num=1;g|", "2f():num=1;|;", "3f():num=1;g(x:num):num=x;|f():num=1;", "3f(a:num,|a:num):num=1;",
            "4f(x:num,p:num):num=x;g():num=|z;", "4f():num=|k();", "5f(x:num):(num,num)=(x,x);g():num=|f(1);", "5f():num=|f(1);",
            "6f(a:num,b:num,c:num,d:num,|e:num):num=1;", "6f():num=" + "(".repeat(20) + "|1", "6f():(num,(num,|(num,num)))=1;",
        };
        State[] states = {RefusedTest::madeNew, RefusedTest::faulty, RefusedTest::readOnly, RefusedTest::worked, RefusedTest::ranUndefined,
            RefusedTest::allInputs};
        for (String fault : faults) {
            int place = fault.indexOf('|') - 1;
            for (State s : states) {
                Calls touched = new Calls();
                s.bring(touched);
                touched.x.cut(0);
                touched.tape(fault.substring(1, place + 1) + fault.substring(place + 2));
                Calls.due('0' - fault.charAt(0), touched.x::read);
                Calls twin = new Calls();
                s.bring(twin);
                twin.x.cut(0);
                twin.tape(" ".repeat(place) + "#").x.read();
                Calls.due(place, touched.x::place);
                Calls.dueText(shown(twin.x), shown(touched.x));
            }
        }
    }

    private static void needed() {
        for (int param : new int[] {MIN, -1, 2, MAX}) {
            refusedIndex(RefusedTest::worked, x -> x.needed(param) ? 1 : 0);
            refusedIndex(RefusedTest::ranUndefined, x -> x.needed(param) ? 1 : 0);
        }
        State[] states = {RefusedTest::madeNew, RefusedTest::faulty, RefusedTest::readOnly};
        for (State s : states) {
            refusedIndex(s, x -> x.needed(0) ? 1 : 0);
        }
        Calls c = new Calls();
        ranUndefined(c);
        Calls.dueYes(false, () -> c.x.needed(0));
        Calls.dueYes(true, () -> c.x.needed(1));
    }
}
