import java.util.NoSuchElementException;

/**
 * A small language of bracketed expressions with closures, pairs, assignment, local and recursive
 * names, and continuations that can be called again. A text is put together and checked sign by
 * sign, compiled as it is read, and run a few steps at a time.
 */
public final class ContinuationCore {
    public static final int NONE = -1;
    public static final int IDLE = 0;
    public static final int RUNNING = 1;
    public static final int ENDED = 2;
    public static final int FAULT = 3;
    public static final int NAME = 1;
    public static final int KIND = 2;
    public static final int ZERO = 3;
    public static final int COUNT = 4;
    public static final int ROOM = 5;

    private static final int LETTERS = 26;
    private static final int MOST_SIGNS = 120;
    private static final int SIGNS_A_CALL = 8;
    private static final int FIRST_SIGN = 32;
    private static final int LAST_SIGN = 126;
    private static final int MOST_STEPS_A_CALL = 10;
    private static final int SHOWN_SIGNS = 60;

    private final char[] signRow = new char[MOST_SIGNS + SIGNS_A_CALL];
    private final Reader reader = new Reader();
    private final Machine machine = new Machine();
    private final Place[] givens = new Place[LETTERS];
    private int length;
    private int givenCount;

    public ContinuationCore() {
        for (int name = 0; name < LETTERS; name++) {
            givens[name] = new Place();
        }
    }

    public int text(long signs) throws IllegalStateException, IllegalArgumentException {
        if (machine.status == RUNNING) {
            throw new IllegalStateException("a run is going on");
        }
        int longer = putBehind(signs);
        if (longer == NONE) {
            throw new IllegalArgumentException("a byte is no sign");
        }
        if (!reader.read(signRow, longer)) {
            // The reader must stand behind the text that stays.
            reader.read(signRow, length);
            throw new IllegalArgumentException("no expression begins so");
        }
        length = longer;
        return length;
    }

    public int clear() throws IllegalStateException {
        if (machine.status == RUNNING) {
            throw new IllegalStateException("a run is going on");
        }
        int before = length;
        length = 0;
        reader.read(signRow, 0);
        return before;
    }

    public int whole() {
        return reader.isWhole() ? 1 : 0;
    }

    public int given(int name, int value) throws IllegalStateException, IllegalArgumentException {
        if (!isLetter(name)) {
            throw new IllegalArgumentException("the name is not 0 .. 25");
        }
        if (machine.status == RUNNING) {
            throw new IllegalStateException("a run is going on");
        }
        if (givens[name].kind == Place.NOTHING) {
            givenCount++;
        }
        givens[name].hold(Place.INT, value);
        return givenCount;
    }

    public int start() throws IllegalStateException {
        if (machine.status == RUNNING) {
            throw new IllegalStateException("a run is going on");
        }
        if (!reader.isWhole()) {
            throw new IllegalStateException("the text is not whole");
        }
        machine.prepare(reader.outermost(), givens);
        return reader.used;
    }

    public int run(int steps)
            throws IllegalStateException, IllegalArgumentException, ArithmeticException, UnsupportedOperationException {
        if (steps < 1 || steps > MOST_STEPS_A_CALL) {
            throw new IllegalArgumentException("the steps are not 1 .. 10");
        }
        if (machine.status != RUNNING) {
            throw new IllegalStateException("no run is going on");
        }
        int done = 0;
        while (done < steps && machine.status == RUNNING) {
            machine.step();
            done++;
        }
        if (machine.status == FAULT) {
            throwFault(machine.fault);
        }
        return done;
    }

    public int stop() throws IllegalStateException {
        if (machine.status != RUNNING) {
            throw new IllegalStateException("no run is going on");
        }
        machine.status = IDLE;
        return machine.steps;
    }

    public int state(int what) throws IllegalArgumentException {
        switch (what) {
            case 0:
                return machine.status;
            case 1:
                return machine.steps;
            case 2:
                return machine.pairs;
            case 3:
                return machine.bindings;
            case 4:
                return machine.depth();
            case 5:
                return machine.fault;
            default:
                throw new IllegalArgumentException("what is not 0 .. 5");
        }
    }

    public int sign(int i) throws IllegalStateException, IllegalArgumentException {
        if (i < 0 || i >= SHOWN_SIGNS) {
            throw new IllegalArgumentException("the place is not 0 .. 59");
        }
        if (machine.status != ENDED) {
            throw new IllegalStateException("the run has no value");
        }
        return i < machine.shown.length() ? machine.shown.charAt(i) : NONE;
    }

    public int global(int name) throws IllegalArgumentException, NoSuchElementException {
        if (!isLetter(name)) {
            throw new IllegalArgumentException("the name is not 0 .. 25");
        }
        Place held = machine.globals[name].held;
        if (held.kind != Place.INT) {
            throw new NoSuchElementException("the name has no int");
        }
        return held.number;
    }

    private static boolean isLetter(int name) {
        return name >= 0 && name < LETTERS;
    }

    /** Writes the signs behind the text without counting them to it; NONE if a byte is no sign. */
    private int putBehind(long signs) {
        int end = length;
        for (int place = SIGNS_A_CALL - 1; place >= 0; place--) {
            int sign = (int) (signs >>> (8 * place)) & 255;
            if (sign != 0) {
                if (sign < FIRST_SIGN || sign > LAST_SIGN) {
                    return NONE;
                }
                signRow[end] = (char) sign;
                end++;
            }
        }
        return end;
    }

    private static void throwFault(int fault) {
        switch (fault) {
            case NAME:
                throw new IllegalStateException("a name has no value");
            case KIND:
                throw new UnsupportedOperationException("a value is of another kind");
            case ZERO:
                throw new ArithmeticException("division by 0");
            case COUNT:
                throw new IllegalArgumentException("not as many arguments as names");
            default:
                throw new IllegalArgumentException("no room");
        }
    }

    /** One compiled expression. Its kind is the sign that its form begins with, or one of the constants. */
    private static final class Expression {
        static final char NUMBER = '0';
        static final char LETTER = 'a';
        static final char EMPTY = '_';
        static final char APPLICATION = '(';
        static final char CLOSURE = '\\';
        static final int MOST_NAMES = 3;
        static final int MOST_PARTS = 4;

        char kind;
        /** The int of a number; the name of a name alone and of an assignment, a local or a recursive form. */
        int number;
        int nameCount;
        int partCount;
        final int[] names = new int[MOST_NAMES];
        final Expression[] parts = new Expression[MOST_PARTS];

        void become(char newKind, int newNumber) {
            kind = newKind;
            number = newNumber;
            nameCount = 0;
            partCount = 0;
        }

        /** Adds a name of a closure, false if there is no room or it has the name already. */
        boolean addName(int name) {
            if (nameCount >= MOST_NAMES) {
                return false;
            }
            for (int i = 0; i < nameCount; i++) {
                if (names[i] == name) {
                    return false;
                }
            }
            names[nameCount] = name;
            nameCount++;
            return true;
        }

        boolean addPart(Expression part) {
            if (partCount >= mostParts()) {
                return false;
            }
            parts[partCount] = part;
            partCount++;
            return true;
        }

        boolean mayClose() {
            return partCount >= (kind == APPLICATION ? 1 : mostParts());
        }

        private int mostParts() {
            switch (kind) {
                case NUMBER:
                case LETTER:
                case EMPTY:
                    return 0;
                case 'A':
                case 'D':
                case 'P':
                case '^':
                case '!':
                case CLOSURE:
                    return 1;
                case '?':
                    return 3;
                case APPLICATION:
                    return MOST_PARTS;
                default:
                    return 2;
            }
        }
    }

    /** Reads a text sign by sign and compiles it; its rows are used again for each text. */
    private static final class Reader {
        private static final int MOST_OPEN = 12;
        private static final int MOST_DIGITS = 4;
        private static final String FORM_SIGNS = "+-*/<=:ADP^?&!@%\\";
        /** What the innermost open form takes next. */
        private static final int HEAD = 0;
        private static final int ONE_NAME = 1;
        private static final int NAMES = 2;
        private static final int PARTS = 3;

        private final Expression[] expressions = new Expression[MOST_SIGNS];
        private final Expression[] open = new Expression[MOST_OPEN];
        private int openCount;
        private int phase;
        /** How many digits the number has that the latest sign belongs to, else 0. */
        private int digits;
        int used;

        Reader() {
            for (int i = 0; i < MOST_SIGNS; i++) {
                expressions[i] = new Expression();
            }
        }

        /** Answers whether the text is BEGUN. */
        boolean read(char[] signs, int count) {
            used = 0;
            openCount = 0;
            phase = PARTS;
            digits = 0;
            if (count > MOST_SIGNS || count > signs.length) {
                return false;
            }
            for (int i = 0; i < count; i++) {
                if (!take(signs[i])) {
                    return false;
                }
            }
            return true;
        }

        boolean isWhole() {
            return used > 0 && openCount == 0;
        }

        Expression outermost() {
            return expressions[0];
        }

        private boolean take(char sign) {
            if (digits > 0 && isDigit(sign)) {
                return takeDigit(sign);
            }
            digits = 0;
            if (openCount == 0) {
                return used == 0 && takeExpression(sign);
            }
            Expression form = open[openCount - 1];
            switch (phase) {
                case HEAD:
                    return takeHead(form, sign);
                case ONE_NAME:
                    return takeOneName(form, sign);
                case NAMES:
                    return takeNameOrDot(form, sign);
                default:
                    return takePart(form, sign);
            }
        }

        private boolean takeDigit(char sign) {
            if (digits >= MOST_DIGITS || used == 0) {
                return false;
            }
            Expression latest = expressions[used - 1];
            latest.number = 10 * latest.number + (sign - '0');
            digits++;
            return true;
        }

        private boolean takeHead(Expression form, char sign) {
            phase = PARTS;
            if (FORM_SIGNS.indexOf(sign) < 0) {
                return takePart(form, sign);
            }
            form.become(sign, 0);
            if (sign == '!' || sign == '@' || sign == '%') {
                phase = ONE_NAME;
            } else if (sign == Expression.CLOSURE) {
                phase = NAMES;
            }
            return true;
        }

        private boolean takeOneName(Expression form, char sign) {
            form.number = sign - 'a';
            phase = PARTS;
            return isName(sign);
        }

        private boolean takeNameOrDot(Expression form, char sign) {
            if (sign == '.') {
                phase = PARTS;
                return true;
            }
            return isName(sign) && form.addName(sign - 'a');
        }

        private boolean takePart(Expression form, char sign) {
            if (sign == ' ') {
                return true;
            }
            if (sign == ')') {
                openCount--;
                return form.mayClose();
            }
            return used < MOST_SIGNS && form.addPart(expressions[used]) && takeExpression(sign);
        }

        private boolean takeExpression(char sign) {
            if (used >= MOST_SIGNS) {
                return false;
            }
            Expression made = expressions[used];
            used++;
            if (isDigit(sign)) {
                made.become(Expression.NUMBER, sign - '0');
                digits = 1;
                return true;
            }
            if (isName(sign)) {
                made.become(Expression.LETTER, sign - 'a');
                return true;
            }
            made.become(sign, 0);
            return sign == Expression.EMPTY || sign == Expression.APPLICATION && openForm(made);
        }

        private boolean openForm(Expression form) {
            if (openCount >= MOST_OPEN) {
                return false;
            }
            open[openCount] = form;
            openCount++;
            phase = HEAD;
            return true;
        }

        private static boolean isDigit(char sign) {
            return sign >= '0' && sign <= '9';
        }

        private static boolean isName(char sign) {
            return sign >= 'a' && sign <= 'z';
        }
    }

    /**
     * A place that holds a value or nothing. Values are copied from place to place, so that handing
     * one on makes no object, however many forms go on within one step.
     */
    private static final class Place {
        static final char NOTHING = ' ';
        static final char INT = '0';
        static final char EMPTY = '_';
        static final char PAIR = '.';
        static final char CLOSURE = 'L';
        static final char CONTINUATION = 'K';

        char kind = NOTHING;
        /** The int; of a pair, a closure or a continuation, which one of its run it is. */
        int number;
        Pair pair;
        Closure closure;
        /** The chain of a continuation, null if it is empty. */
        Waiting chain;

        void copy(Place other) {
            kind = other.kind;
            number = other.number;
            pair = other.pair;
            closure = other.closure;
            chain = other.chain;
        }

        void hold(char newKind, int newNumber) {
            kind = newKind;
            number = newNumber;
            pair = null;
            closure = null;
            chain = null;
        }

        void holdPair(int which, Pair newPair) {
            hold(PAIR, which);
            pair = newPair;
        }

        void holdClosure(int which, Closure newClosure) {
            hold(CLOSURE, which);
            closure = newClosure;
        }

        void holdContinuation(int which, Waiting newChain) {
            hold(CONTINUATION, which);
            chain = newChain;
        }

        /** What '=' means by equal. */
        boolean isSame(Place other) {
            return kind == other.kind && number == other.number;
        }

        boolean isZero() {
            return kind == INT && number == 0;
        }

        /**
         * Pairs may share their halves, so the whole text can be far too long: behind the signs that
         * are shown nothing is begun. Each level has written a sign, which keeps the levels few, too.
         */
        void write(StringBuilder out) {
            if (out.length() >= SHOWN_SIGNS) {
                return;
            }
            if (kind == INT) {
                out.append(number);
            } else if (pair == null) {
                out.append(kind);
            } else {
                out.append('(');
                pair.first.write(out);
                out.append('.');
                pair.second.write(out);
                out.append(')');
            }
        }
    }

    private static final class Pair {
        final Place first = new Place();
        final Place second = new Place();
    }

    private static final class Closure {
        final Expression code;
        final Binding scope;

        Closure(Expression code, Binding scope) {
            this.code = code;
            this.scope = scope;
        }
    }

    /** A name with a value or with nothing; with those behind it, it is a SCOPE. */
    private static final class Binding {
        final Place held = new Place();
        int name;
        Binding behind;

        void become(int newName, Binding newBehind) {
            name = newName;
            behind = newBehind;
        }
    }

    /** A WAITING form; with those behind it, it is a chain. It never changes, so it can go on again and again. */
    private static final class Waiting {
        final Expression form;
        final Binding scope;
        /** The values of its parts before the one that it waits for. */
        final Place[] done;
        final Waiting behind;
        final int depth;

        Waiting(Expression form, Binding scope, Place[] values, int count, Waiting behind) {
            this.form = form;
            this.scope = scope;
            this.behind = behind;
            this.depth = behind == null ? 1 : behind.depth + 1;
            this.done = new Place[count];
            for (int i = 0; i < count; i++) {
                done[i] = new Place();
                done[i].copy(values[i]);
            }
        }
    }

    /**
     * Runs a compiled text. What waits and closures are made anew, a few objects at most in each step;
     * bindings and pairs are those of the constructor, used again by each run.
     */
    private static final class Machine {
        private static final int MOST_PAIRS = 60;
        private static final int MOST_BINDINGS = 120;
        private static final int MOST_DEPTH = 24;
        /**
         * Within one step a form hands over only to forms older than itself, or, if it is '^', to those
         * of the continuation that it calls, which then gets older forms in exchange. So the turns of a
         * step stay below some sixty times the forms that ever waited, one a step, and below this bound.
         */
        private static final int MOST_TURNS = 1000000;

        final Binding[] globals = new Binding[LETTERS];
        final StringBuilder shown = new StringBuilder();
        private final Binding[] bindingRow = new Binding[MOST_BINDINGS];
        private final Pair[] pairRow = new Pair[MOST_PAIRS];
        private final Place nothing = new Place();
        /** The value that the newest waiting form goes on with. */
        private final Place value = new Place();
        /** The values of the parts of the form that goes on. */
        private final Place[] values = new Place[Expression.MOST_PARTS];
        int status;
        int steps;
        int pairs;
        int bindings;
        int fault;
        /** How many closures and continuations the run has made. */
        private int made;
        /** What the next step begins, and where. */
        private Expression next;
        private Binding nextScope;
        private Waiting chain;

        Machine() {
            Binding behind = null;
            for (int name = 0; name < LETTERS; name++) {
                globals[name] = new Binding();
                globals[name].become(name, behind);
                behind = globals[name];
            }
            for (int i = 0; i < MOST_BINDINGS; i++) {
                bindingRow[i] = new Binding();
            }
            for (int i = 0; i < MOST_PAIRS; i++) {
                pairRow[i] = new Pair();
            }
            for (int i = 0; i < Expression.MOST_PARTS; i++) {
                values[i] = new Place();
            }
        }

        void prepare(Expression code, Place[] givens) {
            for (int name = 0; name < LETTERS && name < givens.length; name++) {
                globals[name].held.copy(givens[name]);
            }
            status = RUNNING;
            steps = 0;
            pairs = 0;
            bindings = 0;
            fault = 0;
            made = 0;
            chain = null;
            goLast(code, globals[LETTERS - 1]);
        }

        int depth() {
            return status != RUNNING || chain == null ? 0 : chain.depth;
        }

        void step() {
            steps++;
            boolean goesOn = begin(next, nextScope);
            for (int turn = 0; turn < MOST_TURNS && goesOn; turn++) {
                Waiting newest = chain;
                if (newest == null) {
                    end();
                    goesOn = false;
                } else {
                    chain = newest.behind;
                    goesOn = goOn(newest);
                }
            }
        }

        private void end() {
            shown.setLength(0);
            value.write(shown);
            status = ENDED;
        }

        /** Answers false, as there is no value to go on with. */
        private boolean fail(int newFault) {
            status = FAULT;
            fault = newFault;
            return false;
        }

        /** Answers true, as there is a value to go on with. */
        private boolean answer(Place place) {
            value.copy(place);
            return true;
        }

        private boolean answerInt(int number) {
            value.hold(Place.INT, number);
            return true;
        }

        /** Answers whether there is a value; if not, a part is to be begun first or there was a fault. */
        private boolean begin(Expression code, Binding scope) {
            switch (code.kind) {
                case Expression.NUMBER:
                    return answerInt(code.number);
                case Expression.EMPTY:
                    value.hold(Place.EMPTY, 0);
                    return true;
                case Expression.LETTER:
                    Binding found = find(code.number, scope);
                    return found == null || found.held.kind == Place.NOTHING ? fail(NAME) : answer(found.held);
                case Expression.CLOSURE:
                    value.holdClosure(made, new Closure(code, scope));
                    made++;
                    return true;
                case '%':
                    Binding inner = bind(code.number, nothing, scope);
                    return inner != null && await(code, inner, 0);
                default:
                    return await(code, scope, 0);
            }
        }

        /** The form goes on with the value of a part; answers as begin does. */
        private boolean goOn(Waiting waiting) {
            Expression form = waiting.form;
            Binding scope = waiting.scope;
            switch (form.kind) {
                case '?':
                    return goLast(form.parts[value.isZero() ? 2 : 1], scope);
                case '&':
                    return goLast(form.parts[1], scope);
                case '@':
                    Binding inner = bind(form.number, value, scope);
                    return inner != null && goLast(form.parts[1], inner);
                case '%':
                    scope.held.copy(value);
                    return goLast(form.parts[1], scope);
                default:
                    int count = gather(waiting.done);
                    return count < form.partCount ? await(form, scope, count) : complete(form, scope, count);
            }
        }

        /** Puts the values so far and the new one side by side; answers how many they are. */
        private int gather(Place[] done) {
            int count = 0;
            while (count < done.length && count < values.length - 1) {
                values[count].copy(done[count]);
                count++;
            }
            values[count].copy(value);
            return count + 1;
        }

        /** The next step begins the part, and nothing waits for it that did not wait before. */
        private boolean goLast(Expression part, Binding scope) {
            next = part;
            nextScope = scope;
            return false;
        }

        /** The next step begins the part behind those that have values, and the form waits for it. */
        private boolean await(Expression form, Binding scope, int count) {
            if (depth() >= MOST_DEPTH) {
                return fail(ROOM);
            }
            chain = new Waiting(form, scope, values, count, chain);
            return goLast(form.parts[count], scope);
        }

        /** All parts of the form have values. */
        private boolean complete(Expression form, Binding scope, int count) {
            switch (form.kind) {
                case Expression.APPLICATION:
                    return call(count - 1);
                case '^':
                    values[1].holdContinuation(made, chain);
                    made++;
                    return call(1);
                case '!':
                    Binding found = find(form.number, scope);
                    if (found != null) {
                        found.held.copy(value);
                    }
                    return true;
                case 'A':
                    return value.pair == null ? fail(KIND) : answer(value.pair.first);
                case 'D':
                    return value.pair == null ? fail(KIND) : answer(value.pair.second);
                case 'P':
                    return answerInt(value.pair == null ? 0 : 1);
                case ':':
                    return makePair();
                case '=':
                    return answerInt(values[0].isSame(values[1]) ? 1 : 0);
                default:
                    return reckon(form.kind);
            }
        }

        /** Calls the first of the values with so many behind it. */
        private boolean call(int arguments) {
            if (values[0].kind == Place.CONTINUATION) {
                if (arguments != 1) {
                    return fail(COUNT);
                }
                chain = values[0].chain;
                return answer(values[1]);
            }
            Closure closure = values[0].closure;
            if (closure == null) {
                return fail(KIND);
            }
            if (arguments != closure.code.nameCount) {
                return fail(COUNT);
            }
            Binding scope = closure.scope;
            for (int i = 0; i < arguments; i++) {
                scope = bind(closure.code.names[i], values[i + 1], scope);
                if (scope == null) {
                    return false;
                }
            }
            return goLast(closure.code.parts[0], scope);
        }

        /** Puts a new binding in front of the scope; null after a fault. */
        private Binding bind(int name, Place held, Binding scope) {
            if (bindings >= MOST_BINDINGS) {
                fail(ROOM);
                return null;
            }
            Binding binding = bindingRow[bindings];
            bindings++;
            binding.become(name, scope);
            binding.held.copy(held);
            return binding;
        }

        private boolean makePair() {
            if (pairs >= MOST_PAIRS) {
                return fail(ROOM);
            }
            Pair pair = pairRow[pairs];
            pair.first.copy(values[0]);
            pair.second.copy(values[1]);
            value.holdPair(pairs, pair);
            pairs++;
            return true;
        }

        private static Binding find(int name, Binding scope) {
            Binding at = scope;
            while (at != null && at.name != name) {
                at = at.behind;
            }
            return at;
        }

        private boolean reckon(char kind) {
            if (values[0].kind != Place.INT || values[1].kind != Place.INT) {
                return fail(KIND);
            }
            int a = values[0].number;
            int b = values[1].number;
            switch (kind) {
                case '+':
                    return answerInt(a + b);
                case '-':
                    return answerInt(a - b);
                case '*':
                    return answerInt(a * b);
                case '<':
                    return answerInt(a < b ? 1 : 0);
                default:
                    return b == 0 ? fail(ZERO) : answerInt(a / b);
            }
        }
    }
}
