import java.util.NoSuchElementException;

/**
 * A small language of bracketed expressions with closures, pairs, assignment, local and recursive
 * names, and continuations that can be called again. A text is put together and checked sign by
 * sign, compiled as it is read, and run a few steps at a time.
 */
public final class ContinuationCore {
    public static final int NONE = -1;
    public static final int IDLE = 0;
    public static final int RUNNING = 1;
    public static final int ENDED = 2;
    public static final int FAULT = 3;
    public static final int NAME = 1;
    public static final int KIND = 2;
    public static final int ZERO = 3;
    public static final int COUNT = 4;
    public static final int ROOM = 5;

    private static final int LETTERS = 26;
    private static final int MOST_SIGNS = 120;
    private static final int SIGNS_A_CALL = 8;
    private static final int FIRST_SIGN = 32;
    private static final int LAST_SIGN = 126;
    private static final int MOST_STEPS_A_CALL = 10;
    private static final int SHOWN_SIGNS = 60;

    private final char[] signRow = new char[MOST_SIGNS + SIGNS_A_CALL];
    private final Reader reader = new Reader();
    private final Machine machine = new Machine();
    private final IntValue[] givens = new IntValue[LETTERS];
    private int length;
    private int givenCount;

    public ContinuationCore() {
    }

    public int text(long signs) throws IllegalStateException, IllegalArgumentException {
        if (machine.status == RUNNING) {
            throw new IllegalStateException("a run is going on");
        }
        int longer = putBehind(signs);
        if (longer == NONE) {
            throw new IllegalArgumentException("a byte is no sign");
        }
        if (!reader.read(signRow, longer)) {
            // The reader must stand behind the text that stays.
            reader.read(signRow, length);
            throw new IllegalArgumentException("no expression begins so");
        }
        length = longer;
        return length;
    }

    public int clear() throws IllegalStateException {
        if (machine.status == RUNNING) {
            throw new IllegalStateException("a run is going on");
        }
        int before = length;
        length = 0;
        reader.read(signRow, 0);
        return before;
    }

    public int whole() {
        return reader.isWhole() ? 1 : 0;
    }

    public int given(int name, int value) throws IllegalStateException, IllegalArgumentException {
        if (!isLetter(name)) {
            throw new IllegalArgumentException("the name is not 0 .. 25");
        }
        if (machine.status == RUNNING) {
            throw new IllegalStateException("a run is going on");
        }
        if (givens[name] == null) {
            givenCount++;
        }
        givens[name] = new IntValue(value);
        return givenCount;
    }

    public int start() throws IllegalStateException {
        if (machine.status == RUNNING) {
            throw new IllegalStateException("a run is going on");
        }
        if (!reader.isWhole()) {
            throw new IllegalStateException("the text is not whole");
        }
        machine.prepare(reader.outermost(), givens);
        return reader.used;
    }

    public int run(int steps)
            throws IllegalStateException, IllegalArgumentException, ArithmeticException, UnsupportedOperationException {
        if (steps < 1 || steps > MOST_STEPS_A_CALL) {
            throw new IllegalArgumentException("the steps are not 1 .. 10");
        }
        if (machine.status != RUNNING) {
            throw new IllegalStateException("no run is going on");
        }
        int done = 0;
        while (done < steps && machine.status == RUNNING) {
            machine.step();
            done++;
        }
        if (machine.status == FAULT) {
            throwFault(machine.fault);
        }
        return done;
    }

    public int stop() throws IllegalStateException {
        if (machine.status != RUNNING) {
            throw new IllegalStateException("no run is going on");
        }
        machine.status = IDLE;
        return machine.steps;
    }

    public int state(int what) throws IllegalArgumentException {
        switch (what) {
            case 0:
                return machine.status;
            case 1:
                return machine.steps;
            case 2:
                return machine.pairs;
            case 3:
                return machine.bindings;
            case 4:
                return machine.depth();
            case 5:
                return machine.fault;
            default:
                throw new IllegalArgumentException("what is not 0 .. 5");
        }
    }

    public int sign(int i) throws IllegalStateException, IllegalArgumentException {
        if (i < 0 || i >= SHOWN_SIGNS) {
            throw new IllegalArgumentException("the place is not 0 .. 59");
        }
        if (machine.status != ENDED) {
            throw new IllegalStateException("the run has no value");
        }
        return i < machine.shown.length() ? machine.shown.charAt(i) : NONE;
    }

    public int global(int name) throws IllegalArgumentException, NoSuchElementException {
        if (!isLetter(name)) {
            throw new IllegalArgumentException("the name is not 0 .. 25");
        }
        if (machine.globals[name].value instanceof IntValue held) {
            return held.number;
        }
        throw new NoSuchElementException("the name has no int");
    }

    private static boolean isLetter(int name) {
        return name >= 0 && name < LETTERS;
    }

    /** Writes the signs behind the text without counting them to it; NONE if a byte is no sign. */
    private int putBehind(long signs) {
        int end = length;
        for (int place = SIGNS_A_CALL - 1; place >= 0; place--) {
            int sign = (int) (signs >>> (8 * place)) & 255;
            if (sign != 0) {
                if (sign < FIRST_SIGN || sign > LAST_SIGN) {
                    return NONE;
                }
                signRow[end] = (char) sign;
                end++;
            }
        }
        return end;
    }

    private static void throwFault(int fault) {
        switch (fault) {
            case NAME:
                throw new IllegalStateException("a name has no value");
            case KIND:
                throw new UnsupportedOperationException("a value is of another kind");
            case ZERO:
                throw new ArithmeticException("division by 0");
            case COUNT:
                throw new IllegalArgumentException("not as many arguments as names");
            default:
                throw new IllegalArgumentException("no room");
        }
    }

    /** One compiled expression. Its kind is the sign that its form begins with, or one of the constants. */
    private static final class Expression {
        static final char NUMBER = '0';
        static final char LETTER = 'a';
        static final char EMPTY = '_';
        static final char APPLICATION = '(';
        static final char CLOSURE = '\\';
        static final int MOST_NAMES = 3;
        static final int MOST_PARTS = 4;

        char kind;
        /** The int of a number; the name of a name alone and of an assignment, a local or a recursive form. */
        int number;
        int nameCount;
        int partCount;
        final int[] names = new int[MOST_NAMES];
        final Expression[] parts = new Expression[MOST_PARTS];

        void become(char newKind, int newNumber) {
            kind = newKind;
            number = newNumber;
            nameCount = 0;
            partCount = 0;
        }

        /** Adds a name of a closure, false if there is no room or it has the name already. */
        boolean addName(int name) {
            if (nameCount >= MOST_NAMES) {
                return false;
            }
            for (int i = 0; i < nameCount; i++) {
                if (names[i] == name) {
                    return false;
                }
            }
            names[nameCount] = name;
            nameCount++;
            return true;
        }

        boolean addPart(Expression part) {
            if (partCount >= mostParts()) {
                return false;
            }
            parts[partCount] = part;
            partCount++;
            return true;
        }

        boolean mayClose() {
            return partCount >= (kind == APPLICATION ? 1 : mostParts());
        }

        private int mostParts() {
            switch (kind) {
                case NUMBER:
                case LETTER:
                case EMPTY:
                    return 0;
                case 'A':
                case 'D':
                case 'P':
                case '^':
                case '!':
                case CLOSURE:
                    return 1;
                case '?':
                    return 3;
                case APPLICATION:
                    return MOST_PARTS;
                default:
                    return 2;
            }
        }
    }

    /** Reads a text sign by sign and compiles it; its rows are used again for each text. */
    private static final class Reader {
        private static final int MOST_OPEN = 12;
        private static final int MOST_DIGITS = 4;
        private static final String FORM_SIGNS = "+-*/<=:ADP^?&!@%\\";
        /** What the innermost open form takes next. */
        private static final int HEAD = 0;
        private static final int ONE_NAME = 1;
        private static final int NAMES = 2;
        private static final int PARTS = 3;

        private final Expression[] expressions = new Expression[MOST_SIGNS];
        private final Expression[] open = new Expression[MOST_OPEN];
        private int openCount;
        private int phase;
        /** How many digits the number has that the latest sign belongs to, else 0. */
        private int digits;
        int used;

        Reader() {
            for (int i = 0; i < MOST_SIGNS; i++) {
                expressions[i] = new Expression();
            }
        }

        /** Answers whether the text is BEGUN. */
        boolean read(char[] signs, int count) {
            used = 0;
            openCount = 0;
            phase = PARTS;
            digits = 0;
            if (count > MOST_SIGNS || count > signs.length) {
                return false;
            }
            for (int i = 0; i < count; i++) {
                if (!take(signs[i])) {
                    return false;
                }
            }
            return true;
        }

        boolean isWhole() {
            return used > 0 && openCount == 0;
        }

        Expression outermost() {
            return expressions[0];
        }

        private boolean take(char sign) {
            if (digits > 0 && isDigit(sign)) {
                return takeDigit(sign);
            }
            digits = 0;
            if (openCount == 0) {
                return used == 0 && takeExpression(sign);
            }
            Expression form = open[openCount - 1];
            switch (phase) {
                case HEAD:
                    return takeHead(form, sign);
                case ONE_NAME:
                    return takeOneName(form, sign);
                case NAMES:
                    return takeNameOrDot(form, sign);
                default:
                    return takePart(form, sign);
            }
        }

        private boolean takeDigit(char sign) {
            if (digits >= MOST_DIGITS || used == 0) {
                return false;
            }
            Expression latest = expressions[used - 1];
            latest.number = 10 * latest.number + (sign - '0');
            digits++;
            return true;
        }

        private boolean takeHead(Expression form, char sign) {
            phase = PARTS;
            if (FORM_SIGNS.indexOf(sign) < 0) {
                return takePart(form, sign);
            }
            form.become(sign, 0);
            if (sign == '!' || sign == '@' || sign == '%') {
                phase = ONE_NAME;
            } else if (sign == Expression.CLOSURE) {
                phase = NAMES;
            }
            return true;
        }

        private boolean takeOneName(Expression form, char sign) {
            form.number = sign - 'a';
            phase = PARTS;
            return isName(sign);
        }

        private boolean takeNameOrDot(Expression form, char sign) {
            if (sign == '.') {
                phase = PARTS;
                return true;
            }
            return isName(sign) && form.addName(sign - 'a');
        }

        private boolean takePart(Expression form, char sign) {
            if (sign == ' ') {
                return true;
            }
            if (sign == ')') {
                openCount--;
                return form.mayClose();
            }
            return used < MOST_SIGNS && form.addPart(expressions[used]) && takeExpression(sign);
        }

        private boolean takeExpression(char sign) {
            if (used >= MOST_SIGNS) {
                return false;
            }
            Expression made = expressions[used];
            used++;
            if (isDigit(sign)) {
                made.become(Expression.NUMBER, sign - '0');
                digits = 1;
                return true;
            }
            if (isName(sign)) {
                made.become(Expression.LETTER, sign - 'a');
                return true;
            }
            made.become(sign, 0);
            return sign == Expression.EMPTY || sign == Expression.APPLICATION && openForm(made);
        }

        private boolean openForm(Expression form) {
            if (openCount >= MOST_OPEN) {
                return false;
            }
            open[openCount] = form;
            openCount++;
            phase = HEAD;
            return true;
        }

        private static boolean isDigit(char sign) {
            return sign >= '0' && sign <= '9';
        }

        private static boolean isName(char sign) {
            return sign >= 'a' && sign <= 'z';
        }
    }

    private abstract static class Value {
        /** What '=' means by equal. */
        boolean isSame(Value other) {
            return this == other;
        }

        abstract void write(StringBuilder out);
    }

    private static final class IntValue extends Value {
        final int number;

        IntValue(int number) {
            this.number = number;
        }

        @Override
        boolean isSame(Value other) {
            return other instanceof IntValue that && that.number == number;
        }

        @Override
        void write(StringBuilder out) {
            out.append(number);
        }
    }

    private static final class EmptyValue extends Value {
        @Override
        boolean isSame(Value other) {
            return other instanceof EmptyValue;
        }

        @Override
        void write(StringBuilder out) {
            out.append('_');
        }
    }

    private static final class PairValue extends Value {
        final Value first;
        final Value second;

        PairValue(Value first, Value second) {
            this.first = first;
            this.second = second;
        }

        /**
         * Pairs may share their halves, so the whole text can be far too long: behind the signs that
         * are shown nothing is begun. Each level has written a sign, which keeps the levels few, too.
         */
        @Override
        void write(StringBuilder out) {
            if (out.length() >= SHOWN_SIGNS) {
                return;
            }
            out.append('(');
            first.write(out);
            out.append('.');
            second.write(out);
            out.append(')');
        }
    }

    private static final class ClosureValue extends Value {
        final Expression code;
        final Binding scope;

        ClosureValue(Expression code, Binding scope) {
            this.code = code;
            this.scope = scope;
        }

        @Override
        void write(StringBuilder out) {
            out.append('L');
        }
    }

    private static final class ContinuationValue extends Value {
        final Waiting chain;

        ContinuationValue(Waiting chain) {
            this.chain = chain;
        }

        @Override
        void write(StringBuilder out) {
            out.append('K');
        }
    }

    /** A name with a value, or with null; with those behind it, it is a SCOPE. */
    private static final class Binding {
        final int name;
        final Binding behind;
        Value value;

        Binding(int name, Value value, Binding behind) {
            this.name = name;
            this.value = value;
            this.behind = behind;
        }
    }

    /** A WAITING form; with those behind it, it is a chain. It never changes, so it can go on again and again. */
    private static final class Waiting {
        final Expression form;
        final Binding scope;
        final Value[] done;
        final Waiting behind;
        final int depth;

        Waiting(Expression form, Binding scope, Value[] done, Waiting behind) {
            this.form = form;
            this.scope = scope;
            this.done = done;
            this.behind = behind;
            this.depth = behind == null ? 1 : behind.depth + 1;
        }

        /** The values of its parts so far, in a row of their own, with one more. */
        Value[] doneWith(Value value) {
            Value[] all = new Value[done.length + 1];
            for (int i = 0; i < done.length; i++) {
                all[i] = done[i];
            }
            all[done.length] = value;
            return all;
        }
    }

    /** Runs a compiled text. */
    private static final class Machine {
        private static final int MOST_PAIRS = 60;
        private static final int MOST_BINDINGS = 120;
        private static final int MOST_DEPTH = 24;
        /** Forms go on within one step only towards older ones, and each was made by a step of its own. */
        private static final int MOST_TURNS = 1000000;

        final Binding[] globals = new Binding[LETTERS];
        final StringBuilder shown = new StringBuilder();
        private final Value empty = new EmptyValue();
        private final Value[] nothing = new Value[0];
        int status;
        int steps;
        int pairs;
        int bindings;
        int fault;
        /** What the next step begins, and where. */
        private Expression next;
        private Binding nextScope;
        private Waiting chain;

        Machine() {
            Binding behind = null;
            for (int name = 0; name < LETTERS; name++) {
                behind = new Binding(name, null, behind);
                globals[name] = behind;
            }
        }

        void prepare(Expression code, IntValue[] givens) {
            for (int name = 0; name < LETTERS && name < givens.length; name++) {
                globals[name].value = givens[name];
            }
            status = RUNNING;
            steps = 0;
            pairs = 0;
            bindings = 0;
            fault = 0;
            chain = null;
            goLast(code, globals[LETTERS - 1]);
        }

        int depth() {
            return status != RUNNING || chain == null ? 0 : chain.depth;
        }

        void step() {
            steps++;
            Value value = begin(next, nextScope);
            for (int turn = 0; turn < MOST_TURNS && value != null; turn++) {
                Waiting newest = chain;
                if (newest == null) {
                    shown.setLength(0);
                    value.write(shown);
                    status = ENDED;
                    value = null;
                } else {
                    chain = newest.behind;
                    value = goOn(newest, value);
                }
            }
        }

        /** Answers null, as there is no value to go on with. */
        private Value fail(int newFault) {
            status = FAULT;
            fault = newFault;
            return null;
        }

        /** The value, null if a part is to be begun first or after a fault. */
        private Value begin(Expression code, Binding scope) {
            switch (code.kind) {
                case Expression.NUMBER:
                    return new IntValue(code.number);
                case Expression.EMPTY:
                    return empty;
                case Expression.LETTER:
                    return valueOf(code.number, scope);
                case Expression.CLOSURE:
                    return new ClosureValue(code, scope);
                case '%':
                    Binding inner = bind(code.number, null, scope);
                    return inner == null ? null : await(code, inner, nothing);
                default:
                    return await(code, scope, nothing);
            }
        }

        /** The form goes on with the value of a part; answers as begin does. */
        private Value goOn(Waiting waiting, Value value) {
            Expression form = waiting.form;
            Binding scope = waiting.scope;
            switch (form.kind) {
                case '?':
                    return goLast(form.parts[isZero(value) ? 2 : 1], scope);
                case '&':
                    return goLast(form.parts[1], scope);
                case '@':
                    Binding inner = bind(form.number, value, scope);
                    return inner == null ? null : goLast(form.parts[1], inner);
                case '%':
                    scope.value = value;
                    return goLast(form.parts[1], scope);
                default:
                    Value[] all = waiting.doneWith(value);
                    return all.length < form.partCount ? await(form, scope, all) : complete(form, scope, all);
            }
        }

        /** The next step begins the part, and nothing waits for it that did not wait before. */
        private Value goLast(Expression part, Binding scope) {
            next = part;
            nextScope = scope;
            return null;
        }

        /** The next step begins the part behind those that are done, and the form waits for it. */
        private Value await(Expression form, Binding scope, Value[] done) {
            if (depth() >= MOST_DEPTH) {
                return fail(ROOM);
            }
            chain = new Waiting(form, scope, done, chain);
            return goLast(form.parts[done.length], scope);
        }

        /** All parts of the form have values. */
        private Value complete(Expression form, Binding scope, Value[] all) {
            switch (form.kind) {
                case Expression.APPLICATION:
                    return call(all);
                case '^':
                    return call(new Value[] {all[0], new ContinuationValue(chain)});
                case '!':
                    return assign(form.number, all[0], scope);
                case 'A':
                    return all[0] instanceof PairValue pair ? pair.first : fail(KIND);
                case 'D':
                    return all[0] instanceof PairValue pair ? pair.second : fail(KIND);
                case 'P':
                    return truth(all[0] instanceof PairValue);
                case ':':
                    return makePair(all[0], all[1]);
                case '=':
                    return truth(all[0].isSame(all[1]));
                default:
                    return reckon(form.kind, all[0], all[1]);
            }
        }

        /** Calls the first value with the others. */
        private Value call(Value[] all) {
            int count = all.length - 1;
            if (all[0] instanceof ContinuationValue continuation) {
                if (count != 1) {
                    return fail(COUNT);
                }
                chain = continuation.chain;
                return all[1];
            }
            if (!(all[0] instanceof ClosureValue closure)) {
                return fail(KIND);
            }
            if (count != closure.code.nameCount) {
                return fail(COUNT);
            }
            Binding scope = closure.scope;
            for (int i = 0; i < count; i++) {
                scope = bind(closure.code.names[i], all[i + 1], scope);
                if (scope == null) {
                    return null;
                }
            }
            return goLast(closure.code.parts[0], scope);
        }

        /** Puts a new binding in front of the scope; null after a fault. */
        private Binding bind(int name, Value value, Binding scope) {
            if (bindings >= MOST_BINDINGS) {
                fail(ROOM);
                return null;
            }
            bindings++;
            return new Binding(name, value, scope);
        }

        private Value makePair(Value first, Value second) {
            if (pairs >= MOST_PAIRS) {
                return fail(ROOM);
            }
            pairs++;
            return new PairValue(first, second);
        }

        private Value assign(int name, Value value, Binding scope) {
            Binding found = find(name, scope);
            if (found != null) {
                found.value = value;
            }
            return value;
        }

        private Value valueOf(int name, Binding scope) {
            Binding found = find(name, scope);
            return found == null || found.value == null ? fail(NAME) : found.value;
        }

        private static Binding find(int name, Binding scope) {
            Binding at = scope;
            while (at != null && at.name != name) {
                at = at.behind;
            }
            return at;
        }

        private Value reckon(char kind, Value left, Value right) {
            if (left instanceof IntValue a && right instanceof IntValue b) {
                return kind == '<' ? truth(a.number < b.number) : reckonInts(kind, a.number, b.number);
            }
            return fail(KIND);
        }

        private Value reckonInts(char kind, int a, int b) {
            switch (kind) {
                case '+':
                    return new IntValue(a + b);
                case '-':
                    return new IntValue(a - b);
                case '*':
                    return new IntValue(a * b);
                default:
                    return b == 0 ? fail(ZERO) : new IntValue(a / b);
            }
        }

        private static Value truth(boolean holds) {
            return new IntValue(holds ? 1 : 0);
        }

        private static boolean isZero(Value value) {
            return value instanceof IntValue held && held.number == 0;
        }
    }
}
