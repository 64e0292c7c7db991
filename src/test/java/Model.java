import java.util.ArrayList;
import java.util.List;
import java.util.NoSuchElementException;
import java.util.function.Function;

/**
 * The document once more, built in another way: texts are read by descent, and a run is written in
 * continuation passing style, each waiting form being a Java function. It is for comparing only.
 */
final class Model {
    private record Node(char kind, String names, int number, List<Node> parts) {
        int count() {
            return 1 + parts.stream().mapToInt(Node::count).sum();
        }
    }

    private record Next(Node node, Scope scope, Chain chain) { }

    private record Chain(int depth, Function<Object, Next> goOn) { }

    private static final class Scope {
        private final char name;
        private final Scope behind;
        private Object value;

        private Scope(char name, Object value, Scope behind) {
            this.name = name;
            this.value = value;
            this.behind = behind;
        }

        private Scope find(char wanted) {
            return name == wanted ? this : behind.find(wanted);
        }
    }

    private static final class Pair {
        private final Object first;
        private final Object second;

        private Pair(Object first, Object second) {
            this.first = first;
            this.second = second;
        }
    }

    private static final class Closure {
        private final Node node;
        private final Scope scope;

        private Closure(Node node, Scope scope) {
            this.node = node;
            this.scope = scope;
        }
    }

    private static final class Continuation {
        private final Chain chain;

        private Continuation(Chain chain) {
            this.chain = chain;
        }
    }

    private static final class Fault extends RuntimeException {
        private static final long serialVersionUID = 1;
        private final int code;

        private Fault(int code) {
            this.code = code;
        }
    }

    /** The text ends where more is due. */
    private static final class TooShort extends RuntimeException {
        private static final long serialVersionUID = 1;
    }

    /** Something stands in the text that may not stand there. */
    private static final class Wrong extends RuntimeException {
        private static final long serialVersionUID = 1;
    }

    private static final Object EMPTY = new Object();

    private String text = "";
    private final Integer[] givens = new Integer[26];
    private final Scope[] globals = new Scope[26];
    private int status;
    private int steps;
    private int pairs;
    private int bindings;
    private int fault;
    private Object value;
    private Next next;
    private int at;
    private String reading;

    Model() {
        for (int i = 0; i < 26; i++) {
            globals[i] = new Scope((char) ('a' + i), null, i == 0 ? null : globals[i - 1]);
        }
    }

    int text(long signs) {
        idleOnly();
        StringBuilder longer = new StringBuilder(text);
        for (int shift = 56; shift >= 0; shift -= 8) {
            int sign = (int) (signs >> shift & 0xFF);
            if (sign != 0 && (sign < ' ' || sign > '~')) {
                throw new IllegalArgumentException();
            }
            if (sign != 0) {
                longer.append((char) sign);
            }
        }
        if (!isBegun(longer.toString())) {
            throw new IllegalArgumentException();
        }
        text = longer.toString();
        return text.length();
    }

    int clear() {
        idleOnly();
        int length = text.length();
        text = "";
        return length;
    }

    int whole() {
        return read(text) == null ? 0 : 1;
    }

    int given(int name, int number) {
        if (name < 0 || name > 25) {
            throw new IllegalArgumentException();
        }
        idleOnly();
        givens[name] = number;
        int count = 0;
        for (Integer given : givens) {
            count += given == null ? 0 : 1;
        }
        return count;
    }

    int start() {
        idleOnly();
        Node node = read(text);
        if (node == null) {
            throw new IllegalStateException();
        }
        for (int i = 0; i < 26; i++) {
            globals[i].value = givens[i];
        }
        status = 1;
        steps = 0;
        pairs = 0;
        bindings = 0;
        fault = 0;
        next = new Next(node, globals[25], new Chain(0, this::end));
        return node.count();
    }

    private Next end(Object last) {
        status = 2;
        value = last;
        return null;
    }

    int run(int count) {
        if (count < 1 || count > 10) {
            throw new IllegalArgumentException();
        }
        if (status != 1) {
            throw new IllegalStateException();
        }
        int before = steps;
        try {
            for (int i = 0; i < count && status == 1; i++) {
                steps++;
                next = begin(next.node, next.scope, next.chain);
            }
        } catch (Fault thrown) {
            status = 3;
            fault = thrown.code;
            throw List.of(new IllegalStateException(), new UnsupportedOperationException(), new ArithmeticException(),
                new IllegalArgumentException(), new IllegalArgumentException()).get(fault - 1);
        }
        return steps - before;
    }

    int stop() {
        if (status != 1) {
            throw new IllegalStateException();
        }
        status = 0;
        return steps;
    }

    int state(int what) {
        if (what < 0 || what > 5) {
            throw new IllegalArgumentException();
        }
        return new int[] {status, steps, pairs, bindings, status == 1 ? next.chain.depth : 0, fault}[what];
    }

    int sign(int i) {
        if (i < 0 || i > 59) {
            throw new IllegalArgumentException();
        }
        if (status != 2) {
            throw new IllegalStateException();
        }
        String shown = show(value, 60);
        return i < shown.length() ? shown.charAt(i) : -1;
    }

    int global(int name) {
        if (name < 0 || name > 25) {
            throw new IllegalArgumentException();
        }
        if (globals[name].value instanceof Integer number) {
            return number;
        }
        throw new NoSuchElementException();
    }

    private void idleOnly() {
        if (status == 1) {
            throw new IllegalStateException();
        }
    }

    private static String show(Object shown, int most) {
        if (most <= 0) {
            return "";
        }
        if (shown instanceof Pair pair) {
            String first = "(" + show(pair.first, most - 1) + ".";
            return first + show(pair.second, most - first.length()) + ")";
        }
        return shown instanceof Integer ? shown.toString() : shown == EMPTY ? "_" : shown instanceof Closure ? "L" : "K";
    }

    private boolean isBegun(String begun) {
        int open = 0;
        for (char sign : begun.toCharArray()) {
            open += sign == '(' ? 1 : sign == ')' ? -1 : 0;
            if (open > 12) {
                return false;
            }
        }
        try {
            return begun.length() <= 120 && (begun.isEmpty() || readAll(begun) != null);
        } catch (TooShort expected) {
            return true;
        } catch (Wrong expected) {
            return false;
        }
    }

    private Node read(String whole) {
        try {
            return readAll(whole);
        } catch (TooShort | Wrong expected) {
            return null;
        }
    }

    private Node readAll(String whole) {
        reading = whole;
        at = 0;
        Node node = expression();
        if (at < whole.length()) {
            throw new Wrong();
        }
        return node;
    }

    private char peek() {
        if (at >= reading.length()) {
            throw new TooShort();
        }
        return reading.charAt(at);
    }

    private void spaces() {
        while (peek() == ' ') {
            at++;
        }
    }

    private Node expression() {
        char sign = peek();
        at++;
        if (sign == '(') {
            return form();
        }
        if (sign == '_') {
            return new Node('_', "", 0, List.of());
        }
        if (sign >= 'a' && sign <= 'z') {
            return new Node('n', "" + sign, 0, List.of());
        }
        if (sign < '0' || sign > '9') {
            throw new Wrong();
        }
        int from = at - 1;
        while (at < reading.length() && reading.charAt(at) >= '0' && reading.charAt(at) <= '9') {
            at++;
        }
        if (at - from > 4) {
            throw new Wrong();
        }
        return new Node('i', "", Integer.parseInt(reading.substring(from, at)), List.of());
    }

    private Node form() {
        char kind = peek();
        if ("+-*/<=:&ADP^?!@%\\".indexOf(kind) < 0) {
            List<Node> parts = parts(1);
            for (spaces(); peek() != ')'; spaces()) {
                if (parts.size() == 4) {
                    throw new Wrong();
                }
                parts.add(expression());
            }
            at++;
            return new Node('(', "", 0, parts);
        }
        at++;
        String names = kind == '\\' ? closureNames() : "!@%".indexOf(kind) >= 0 ? "" + name() : "";
        Node node = new Node(kind, names, 0, parts("ADP^!\\".indexOf(kind) >= 0 ? 1 : kind == '?' ? 3 : 2));
        spaces();
        if (peek() != ')') {
            throw new Wrong();
        }
        at++;
        return node;
    }

    private List<Node> parts(int count) {
        List<Node> parts = new ArrayList<>();
        for (int i = 0; i < count; i++) {
            spaces();
            parts.add(expression());
        }
        return parts;
    }

    private char name() {
        char name = peek();
        if (name < 'a' || name > 'z') {
            throw new Wrong();
        }
        at++;
        return name;
    }

    private String closureNames() {
        String names = "";
        while (peek() != '.') {
            char name = name();
            if (names.length() == 3 || names.indexOf(name) >= 0) {
                throw new Wrong();
            }
            names += name;
        }
        at++;
        return names;
    }

    private Chain waiting(Chain chain, Function<Object, Next> goOn) {
        if (chain.depth == 24) {
            throw new Fault(5);
        }
        return new Chain(chain.depth + 1, goOn);
    }

    private Scope bound(char name, Object held, Scope scope) {
        if (bindings == 120) {
            throw new Fault(5);
        }
        bindings++;
        return new Scope(name, held, scope);
    }

    private Next begin(Node node, Scope scope, Chain chain) {
        List<Node> parts = node.parts;
        switch (node.kind) {
            case 'i':
                return chain.goOn.apply(node.number);
            case '_':
                return chain.goOn.apply(EMPTY);
            case 'n':
                Object held = scope.find(node.names.charAt(0)).value;
                if (held == null) {
                    throw new Fault(1);
                }
                return chain.goOn.apply(held);
            case '\\':
                return chain.goOn.apply(new Closure(node, scope));
            case '?':
                return new Next(parts.get(0), scope,
                    waiting(chain, v -> new Next(parts.get(v.equals(0) ? 2 : 1), scope, chain)));
            case '&':
                return new Next(parts.get(0), scope, waiting(chain, v -> new Next(parts.get(1), scope, chain)));
            case '@':
                return new Next(parts.get(0), scope,
                    waiting(chain, v -> new Next(parts.get(1), bound(node.names.charAt(0), v, scope), chain)));
            case '%':
                Scope inner = bound(node.names.charAt(0), null, scope);
                return new Next(parts.get(0), inner, waiting(chain, v -> {
                    inner.value = v;
                    return new Next(parts.get(1), inner, chain);
                }));
            default:
                return collect(node, scope, chain, List.of());
        }
    }

    private Next collect(Node node, Scope scope, Chain chain, List<Object> done) {
        if (done.size() == node.parts.size()) {
            return finish(node, scope, chain, done);
        }
        return new Next(node.parts.get(done.size()), scope, waiting(chain, v -> {
            List<Object> more = new ArrayList<>(done);
            more.add(v);
            return collect(node, scope, chain, more);
        }));
    }

    private Next finish(Node node, Scope scope, Chain chain, List<Object> values) {
        if (node.kind == '(') {
            return call(values.get(0), values.subList(1, values.size()), chain);
        }
        if (node.kind == '^') {
            return call(values.get(0), List.of(new Continuation(chain)), chain);
        }
        if (node.kind == '!') {
            scope.find(node.names.charAt(0)).value = values.get(0);
            return chain.goOn.apply(values.get(0));
        }
        return chain.goOn.apply(plain(node.kind, values));
    }

    private Object plain(char kind, List<Object> values) {
        Object one = values.get(0);
        switch (kind) {
            case 'P':
                return one instanceof Pair ? 1 : 0;
            case 'A':
            case 'D':
                if (one instanceof Pair pair) {
                    return kind == 'A' ? pair.first : pair.second;
                }
                throw new Fault(2);
            case '=':
                return one.equals(values.get(1)) ? 1 : 0;
            case ':':
                if (pairs == 60) {
                    throw new Fault(5);
                }
                pairs++;
                return new Pair(one, values.get(1));
            default:
                if (one instanceof Integer a && values.get(1) instanceof Integer b) {
                    return reckon(kind, a, b);
                }
                throw new Fault(2);
        }
    }

    private static int reckon(char kind, long a, long b) {
        if (kind == '/' && b == 0) {
            throw new Fault(3);
        }
        return (int) (kind == '+' ? a + b : kind == '-' ? a - b : kind == '*' ? a * b : kind == '/' ? a / b : a < b ? 1 : 0);
    }

    private Next call(Object called, List<Object> arguments, Chain chain) {
        if (called instanceof Continuation continuation) {
            if (arguments.size() != 1) {
                throw new Fault(4);
            }
            return continuation.chain.goOn.apply(arguments.get(0));
        }
        if (!(called instanceof Closure closure)) {
            throw new Fault(2);
        }
        if (closure.node.names.length() != arguments.size()) {
            throw new Fault(4);
        }
        Scope scope = closure.scope;
        for (int i = 0; i < arguments.size(); i++) {
            scope = bound(closure.node.names.charAt(i), arguments.get(i), scope);
        }
        return new Next(closure.node.parts.get(0), scope, chain);
    }
}
