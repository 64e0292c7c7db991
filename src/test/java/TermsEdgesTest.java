/** The edges of a run's rules, one test for each sentence of the Terms that names one: from VALUES to the faults. */
public final class TermsEdgesTest {
    private static final int NAME = ContinuationCore.NAME;
    private static final int KIND = ContinuationCore.KIND;
    private static final int ZERO = ContinuationCore.ZERO;
    private static final int COUNT = ContinuationCore.COUNT;
    private static final int ROOM = ContinuationCore.ROOM;
    /** One EXPRESSION for each kind of value: an int, the empty value, a pair, a closure and a continuation. */
    private static final String[] KINDS = {" 7", "_", "(:1 2)", "(\\.1)", "(^(\\k.k))"};
    private static final int INT = 0;
    private static final int PAIR = 2;
    private static final int CLOSURE = 3;
    private static final int CONTINUATION = 4;

    public static void main(String[] args) {
        firstBindingOfTheName();
        globalNamesWithoutValue();
        emptyChain();
        nameWithoutValue();
        bothMustBeInts();
        theyWrap();
        cutsTowardZero();
        divisionByZero();
        lessOrNot();
        equalOrNot();
        notAPair();
        isItAPair();
        notTheIntZero();
        assignedWithOrWithoutValue();
        localNameInFront();
        recursiveNameWithoutValue();
        eachContinuationIsAnother();
        calledOfEachKind();
        asManyArgumentsAsNames();
        argumentsOfContinuations();
        calledWithTheContinuation();
        goesOnAnyNumberOfTimes();
        lastPartsDoNotWait();
        endsWhenNothingWaits();
        sixtyPairs();
        bindingsOfEachForm();
        globalOnesAreNotCounted();
        depthOfEachForm();
        depthIsOfTheChainNow();
        roomIsOfOneRun();
        formsDoNotGoOnAfterAFault();
        faultEndsTheRun();
        Calls.end();
    }

    /** The fault that a text ends with, 0 if it ends with a value. */
    private static void fault(String title, String text, int due) {
        Calls c = new Calls(title);
        c.put(text);
        c.core.start();
        for (int i = 0; i < 400 && c.core.state(0) == ContinuationCore.RUNNING; i++) {
            Calls.answerOf(() -> c.core.run(10));
        }
        c.due("fault of " + text, c.core.state(5), due);
        c.due("state of " + text, c.core.state(0), due == 0 ? ContinuationCore.ENDED : ContinuationCore.FAULT);
    }

    private static Calls extremes(String title) {
        return new Calls(title).given(0, Integer.MAX_VALUE, 1).given(1, Integer.MIN_VALUE, 2).given(2, -1, 3);
    }

    private static void firstBindingOfTheName() {
        Calls c = new Calls("a name means the first one with that name").given(0, 1, 1).given(25, 26, 2);
        c.value("(:a z)", "(1.26)").value("(@a 2(:a z))", "(2.26)").value("(@a 2(@z 3(@a 4(:a z))))", "(4.3)");
        c.value("((\\az.(:a z))5 6)", "(5.6)").value("(@a 2((\\z.(:a z))7))", "(2.7)").value("(+(@a 2 a)a)", "3");
    }

    private static void globalNamesWithoutValue() {
        for (char name = 'a'; name <= 'z'; name++) {
            String title = "each without value unless given has set it";
            new Calls(title).fault("" + name, NAME, 1).given(name - 'a', name, 1).value("" + name, "" + (int) name);
            new Calls(title).given(name == 'a' ? 25 : name - 'a' - 1, 1, 1).fault("" + name, NAME, 1);
        }
    }

    private static void emptyChain() {
        Calls c = new Calls("a chain of WAITING forms, the newest first, maybe empty");
        c.value("(^(\\k.(+1(k 5))))", "5").value("(^(\\k.(&(k 6)q)))", "6").value("(^(\\k.(:1(:2(:3(k k))))))", "K");
        // Nothing waits for the last part of a last part.
        c.value("(?1(&2(@a 3(^(\\k.(*9(k 4))))))q)", "4");
    }

    private static void nameWithoutValue() {
        String title = "A name: the value of its BINDING; without one: fault NAME";
        for (String text : new String[] {"q", "(q)", "(q 1)", "(+q 1)", "(+1 q)", "(:1 q)", "(?q 1 2)", "(?0 1 q)", "(&q 1)", "(&1 q)", "(!aq)",
            "(@q q 1)", "(@a 1 q)", "(%q q 1)", "((\\.q))", "(^ q)", "(A q)", "(P q)", "(=q q)"}) {
            fault(title, text, NAME);
        }
        // What is not evaluated needs no value.
        for (String text : new String[] {"(\\.q)", "(?1 2 q)", "(?0 q 2)", "(!q 1)", "(@q 1 q)", "(^(\\k.(&(k 1)q)))"}) {
            fault(title, text, 0);
        }
    }

    private static void bothMustBeInts() {
        for (String form : new String[] {"+", "-", "*", "/", "<"}) {
            for (int left = 0; left < KINDS.length; left++) {
                for (int right = 0; right < KINDS.length; right++) {
                    fault("both values must be ints, else fault KIND", "(" + form + KINDS[left] + KINDS[right] + ")",
                        left == INT && right == INT ? 0 : KIND);
                }
            }
        }
    }

    private static void theyWrap() {
        Calls c = extremes("they wrap");
        c.value("(+a 0)", "2147483647").value("(+a 1)", "-2147483648").value("(+b c)", "2147483647").value("(+a a)", "-2")
            .value("(+b b)", "0");
        c.value("(-b 0)", "-2147483648").value("(-b 1)", "2147483647").value("(-a c)", "-2147483648").value("(-0 b)", "-2147483648")
            .value("(-c b)", "2147483647");
        c.value("(*a 2)", "-2").value("(*b 2)", "0").value("(*b c)", "-2147483648").value("(*a a)", "1").value("(*a c)", "-2147483647")
            .value("(*b b)", "0");
        c.value("(/b c)", "-2147483648").value("(/a c)", "-2147483647");
    }

    private static void cutsTowardZero() {
        Calls c = extremes("'/' cuts toward 0").given(3, -7, 4).given(4, -2, 5);
        c.value("(/7 2)", "3").value("(/d 2)", "-3").value("(/7 e)", "-3").value("(/d e)", "3").value("(/1 2)", "0").value("(/c 2)", "0");
        c.value("(/6 7)", "0").value("(/d 7)", "-1").value("(/0 e)", "0").value("(/a 2)", "1073741823").value("(/b 2)", "-1073741824")
            .value("(/b a)", "-1");
    }

    private static void divisionByZero() {
        Calls c = extremes("by 0 fault ZERO").fault("(/1 0)", ZERO, 3).fault("(/0 0)", ZERO, 3).fault("(/b 0)", ZERO, 3)
            .fault("(/a(-1 1))", ZERO, 5);
        c.fault("(/_ 0)", KIND, 3).fault("(/0 _)", KIND, 3).value("(/0 1)", "0").value("(/1 c)", "-1");
    }

    private static void lessOrNot() {
        Calls c = extremes("'<' likewise: 1 if less, else 0");
        c.value("(<1 2)", "1").value("(<2 2)", "0").value("(<3 2)", "0").value("(<c 0)", "1").value("(<0 c)", "0").value("(<b a)", "1")
            .value("(<a b)", "0");
        c.value("(<a a)", "0").value("(<b b)", "0").value("(<b 1)", "1").value("(<a c)", "0");
    }

    private static void equalOrNot() {
        String title = "'=': 1 if both are equal ints, both empty, or the same pair, closure or continuation, else 0";
        for (int left = 0; left < KINDS.length; left++) {
            for (int right = 0; right < KINDS.length; right++) {
                new Calls(title).value("(=" + KINDS[left] + KINDS[right] + ")", left == right && left < PAIR ? "1" : "0");
                new Calls(title).value("(@p" + KINDS[left] + "(@q" + KINDS[right] + "(=p q)))", left == right && left < PAIR ? "1" : "0");
            }
            new Calls(title).value("(@p" + KINDS[left] + "(@q p(=p q)))", "1").value("(@p" + KINDS[left] + "(=(A(:p 1))(D(:2 p))))", "1");
        }
        Calls c = extremes(title).value("(=a a)", "1").value("(=a b)", "0").value("(=(+a 1)b)", "1").value("(=0 _)", "0")
            .value("(=0000 0)", "1");
        // The first of each kind made in a run is no other kind, nor the int 0.
        c.value("(@f(\\.1)(@p(:f f)(+(=f p)(+(=p 0)(=f 0)))))", "0").value("(^(\\k.(+(=k 0)(=k(\\.1)))))", "0");
    }

    private static void notAPair() {
        for (int kind = 0; kind < KINDS.length; kind++) {
            fault("A, D: not a pair: KIND", "(A" + KINDS[kind] + ")", kind == PAIR ? 0 : KIND);
            fault("A, D: not a pair: KIND", "(D" + KINDS[kind] + ")", kind == PAIR ? 0 : KIND);
        }
        new Calls("A, D").value("(A(:1 2))", "1").value("(D(:1 2))", "2").value("(A(D(:1(:2 3))))", "2").value("(D(A(:(:1 _)3)))", "_");
    }

    private static void isItAPair() {
        for (int kind = 0; kind < KINDS.length; kind++) {
            new Calls("P: 1 or 0").value("(P" + KINDS[kind] + ")", kind == PAIR ? "1" : "0");
        }
    }

    private static void notTheIntZero() {
        String title = "if its value is not the int 0 then the second is LAST, else the third";
        for (String kind : KINDS) {
            new Calls(title).value("(?" + kind + " 2 q)", "2");
        }
        extremes(title).value("(?0 q 3)", "3").value("(?1 2 q)", "2").value("(?c 2 q)", "2").value("(?a 2 q)", "2").value("(?b 2 q)", "2")
            .value("(?(:0 0)2 q)", "2").value("(?(-1 1)q 3)", "3").value("(?0000 q 3)", "3");
    }

    private static void assignedWithOrWithoutValue() {
        Calls c = new Calls("'!': whether it had one or not; it is also the form's value").given(0, 1, 1);
        c.value("(!b 2)", "2").global('b', 2).value("(!a 2)", "2").global('a', 2).value("(!a(!b 3))", "3").global('a', 3).global('b', 3);
        c.value("(%x(!x 4)x)", "4").value("(%x(:(!x 4)x)x)", "(4.4)").value("(@x 1(:(!x 5)x))", "(5.5)");
        for (String kind : KINDS) {
            new Calls("'!' of each kind").value("(=(!b" + kind + ")b)", "1");
        }
    }

    private static void localNameInFront() {
        Calls c = new Calls("'@': a new BINDING in front").given(0, 1, 1);
        c.value("(@a(+a 1)(@a(+a 1)a))", "3").state(3, 2).fault("(@b b b)", NAME, 2).state(3, 0).value("(:(@a 5 a)a)", "(5.1)");
    }

    private static void recursiveNameWithoutValue() {
        Calls c = new Calls("'%': a new BINDING of the name without value is in front").given(0, 1, 1);
        c.fault("(%a a a)", NAME, 2).state(3, 1).fault("(%a(+1 a)a)", NAME, 4).fault("(%a((\\.a))a)", NAME, 4).value("(%a 2 a)", "2")
            .value("(%a(\\.a)(=a(a)))", "1");
        c.value("(%a(&(!a 7)(+a 1))a)", "8").global('a', 1).value("(:(%a 2 a)a)", "(2.1)");
    }

    private static void eachContinuationIsAnother() {
        Calls c = new Calls("each is another one for '=', also if the chain is the same");
        c.value("(^(\\k.(^(\\j.(=k j)))))", "0").value("(^(\\k.(=k k)))", "1").value("(@f(\\k.k)(=(^ f)(^ f)))", "0");
        // A form that makes one goes on twice: two continuations with one chain.
        c.value("(@k(^(\\k.k))(?(P k)(=(A k)(D k))(^(\\j.(k(:k j))))))", "0");
        c.value("(@n 0(@p(^(\\k.(!z k)))(?(<n 1)(&(!n 1)(&(!y p)(z(^(\\k.k)))))(=y p))))", "0");
    }

    private static void calledOfEachKind() {
        for (int kind = 0; kind < CLOSURE; kind++) {
            for (String arguments : new String[] {"", " 1", " 1 2", " 1 2 3"}) {
                fault("CALLED: neither a closure nor a continuation: KIND", "(" + KINDS[kind] + arguments + ")", KIND);
            }
            fault("CALLED by '^': neither a closure nor a continuation: KIND", "(^" + KINDS[kind] + ")", KIND);
        }
        // The arguments are evaluated before.
        fault("the function, then the arguments; then", "(1 q)", NAME);
        fault("the function, then the arguments; then", "((\\.1)q)", NAME);
        fault("the function, then the arguments; then", "(1 2(/1 0)q)", ZERO);
    }

    private static void asManyArgumentsAsNames() {
        String[] names = {"", "x", "xy", "xyz"};
        String[] arguments = {"", " 1", " 1 2", " 1 2 3"};
        for (int n = 0; n < names.length; n++) {
            for (int m = 0; m < arguments.length; m++) {
                Calls c = new Calls("A closure: not as many arguments as names: COUNT");
                c.put("((\\" + names[n] + ".9)" + arguments[m] + ")");
                c.start(3 + m).run(2 + m, n == m ? 2 + m : "throws.IllegalArgumentException");
                c.states(n == m ? 1 : 3, 2 + m, 0, n == m ? n : 0, 0, n == m ? 0 : COUNT);
            }
        }
        new Calls("made from the first name to the last").value("((\\xyz.(:x(:y z)))1 2 3)", "(1.(2.3))").state(3, 3);
    }

    private static void argumentsOfContinuations() {
        String title = "A continuation: not one argument: COUNT";
        fault(title, "(^(\\k.(k)))", COUNT);
        fault(title, "(^(\\k.(k 1)))", 0);
        fault(title, "(^(\\k.(k 1 2)))", COUNT);
        fault(title, "(^(\\k.(k 1 2 3)))", COUNT);
        new Calls(title).value("(+1(^(\\k.(k 5))))", "6").value("(+1(^(\\k.5)))", "6").value("(:1(^(\\k.(:2(k _)))))", "(1._)");
    }

    private static void calledWithTheContinuation() {
        String title = "'^': CALLED with a new continuation as the one argument";
        fault(title, "(^(\\.1))", COUNT);
        fault(title, "(^(\\x.1))", 0);
        fault(title, "(^(\\xy.1))", COUNT);
        fault(title, "(^(\\xyz.1))", COUNT);
        new Calls(title).value("(^(\\k.k))", "K").value("(^(\\k.(^ k)))", "K").value("(:1(^(\\k.(:2(^ k)))))", "(1.K)")
            .value("(^(^(\\k.k)))", "K");
        // Nothing waits for the form any more when its part's value is called.
        Calls c = new Calls("the chain behind the form").text("(P(^(\\k.(k 1))))", 16).start(6).run(1, 1).state(4, 1).run(1, 1).state(4, 2);
        c.run(1, 1).state(4, 1).run(1, 1).state(4, 2).run(1, 1).state(4, 2).run(1, 1).states(2, 6, 0, 1, 0, 0).shows("0");
    }

    private static void goesOnAnyNumberOfTimes() {
        String title = "A form of a continuation can go on so any number of times, each time with the values it had when it began to wait";
        for (int times : new int[] {0, 1, 2, 59}) {
            // It makes a pair each time, the value of its first part being still 10.
            new Calls(title).given(13, times, 1).given(0, 10, 2)
                .value("(@p(:a(^(\\k.(&(!z k)0))))(&(!a 99)(?(=(D p)n)p(z(+1(D p))))))", "(10." + times + ")").state(2, times + 1)
                .state(3, times + 2);
        }
        // Without new pairs and bindings there is no end of it.
        new Calls(title).given(13, 0, 1).value("(&(^(\\k.(!z k)))(&(!n(+n 1))(?(<n 190)(z 0)n)))", "190").state(3, 1);
        // All values before the part are kept, the function's, too.
        new Calls(title).given(13, 0, 1).given(0, 10, 2)
            .value("(&(!f(\\xyz.(!s(+(*100 x)(+(*10 y)z)))))(&(f 1 a(^(\\k.(&(!z k)3))))(?(=n 0)(&(!n 1)(&(!a 0)(&(!f 0)(z 4))))s)))", "204");
    }

    private static void lastPartsDoNotWait() {
        String title = "LAST: nothing waits for it that did not wait for the form";
        String[] texts = {"(?1 5 q)", "(?0 q 5)", "(&1 5)", "(@a 1 5)", "(%a 1 5)", "((\\.5))"};
        for (String text : texts) {
            new Calls(title).text(text, text.length()).start(text.startsWith("(?") ? 4 : 3).run(1, 1).state(4, 1).run(1, 1).state(4, 0)
                .run(1, 1).shows("5");
            String in = "(P" + text + ")";
            new Calls(title).text(in, in.length()).start(in.startsWith("(P(?") ? 5 : 4).run(2, 2).state(4, 2).run(1, 1).state(4, 1)
                .run(1, 1).shows("0");
        }
    }

    private static void endsWhenNothingWaits() {
        Calls c = new Calls("It ends with the value when nothing is WAITING").text("(+1(^(\\k.2)))", 13).start(5).run(4, 4)
            .states(1, 4, 0, 1, 1, 0);
        c.run(10, 1).states(2, 5, 0, 1, 0, 0).shows("3").run(1, "throws.IllegalStateException").states(2, 5, 0, 1, 0, 0);
    }

    /** Evaluates x n times by a loop that makes nothing but the one BINDING of f, then y. */
    private static String times(int n, String x, String y) {
        return "(&(!n " + n + ")(%f(\\.(?(=n 0)" + y + "(&" + x + "(&(!n(-n 1))(f)))))(f)))";
    }

    private static void sixtyPairs() {
        String title = "at most 60 pairs; one more would be fault ROOM";
        new Calls(title).value(times(59, "(:1 2)", "5"), "5").state(2, 59);
        new Calls(title).value(times(60, "(:1 2)", "5"), "5").state(2, 60);
        new Calls(title).value(times(59, "(:1 2)", "(:3 4)"), "(3.4)").state(2, 60);
        Calls over = new Calls(title).value(times(61, "(:1 2)", "5"), "throws.IllegalArgumentException")
            .states(3, 7 + 60 * 15 + 8, 60, 1, 0, ROOM);
        over.value(times(60, "(:1 2)", "(:3 q)"), "throws.IllegalStateException").state(2, 60).state(5, NAME);
    }

    private static void bindingsOfEachForm() {
        String title = "at most 120 BINDINGS; one more would be fault ROOM";
        String[] forms = {"(@x 1 x)", "(%x 1 x)", "((\\x.x)1)", "(^(\\k.k))"};
        for (String form : forms) {
            new Calls(title).value(times(118, form, "5"), "5").state(3, 119);
            new Calls(title).value(times(119, form, "5"), "5").state(3, 120);
            new Calls(title).value(times(120, form, "5"), "throws.IllegalArgumentException").state(0, 3).state(3, 120).state(5, ROOM);
        }
        String two = "((\\xy.x)1 2)";
        new Calls(title).value(times(59, two, "5"), "5").state(3, 119);
        new Calls(title).value(times(59, two, "(@x 1 5)"), "5").state(3, 120);
        new Calls(title).value(times(60, two, "5"), "throws.IllegalArgumentException").state(3, 120).state(5, ROOM);
        String three = "((\\xyz.x)1 2 3)";
        new Calls(title).value(times(39, three, two), "1").state(3, 120);
        new Calls(title).value(times(40, three, "5"), "throws.IllegalArgumentException").state(3, 120).state(5, ROOM);
        // With a wrong count no BINDING is made, so that there is room enough.
        new Calls(title).value(times(119, "(@x 1 x)", "((\\xyz.x)1 2)"), "throws.IllegalArgumentException").state(3, 120).state(5, COUNT);
    }

    private static void globalOnesAreNotCounted() {
        String title = "120 BINDINGS (the GLOBAL ones not counted)";
        Calls c = new Calls(title);
        for (int name = 0; name < 26; name++) {
            c.given(name, 1, name + 1);
        }
        c.value("(!a(!b(!c(!d(!z 2)))))", "2").state(3, 0).value(times(119, "(@x 1 x)", "5"), "5").state(3, 120);
    }

    /** A loop that goes deeper by one form each time, from depth 0; x stands for what is evaluated in it. */
    private static String deeper(int n, String form) {
        return "(%f(\\.(?(=n 0)0(&(!n(-n 1))" + form + ")))(&(!n " + n + ")(f)))";
    }

    private static void depthOfEachForm() {
        String title = "DEPTH is at most 24; one more would be fault ROOM";
        String[] forms = {"(+(f)1)", "(+1(f))", "(*(f)1)", "(:(f)1)", "(:1(f))", "(=1(f))", "(A(:(f)1))", "(P(f))", "(?(f)1 2)", "(&(f)1)", "(!a(f))",
            "(@a(f)a)", "(%a(f)a)", "((f))", "(g(f))", "(g 1(f))", "(g 1 2(f))", "(^(f))"};
        for (String form : forms) {
            int each = form.startsWith("(A(") ? 2 : 1;
            // The deepest call of f has two forms waiting in its own test: '?' and '='.
            Calls c = new Calls(title).given('g' - 'a', 0, 1).text(deeper(22 / each, form), deeper(22 / each, form).length());
            c.core.start();
            int most = 0;
            while (c.core.state(0) == ContinuationCore.RUNNING) {
                int steps = most < 20 ? 10 : 1;
                Calls.answerOf(() -> c.core.run(steps));
                most = Math.max(most, c.core.state(4));
            }
            c.due(form + " most", most, 24).due(form + " ROOM", c.core.state(5) == ROOM, false);
            new Calls(title).given('g' - 'a', 0, 1).value(deeper(22 / each + 1, form), "throws.IllegalArgumentException").state(5, ROOM)
                .state(4, 0);
        }
    }

    private static void depthIsOfTheChainNow() {
        String title = "its DEPTH is how many they are";
        // A continuation of depth 1 is called from depth 20 and more, again and again.
        new Calls(title).given(13, 9, 1).value("(&(^(\\k.(!z k)))(&(!n(-n 1))(?n(%f(\\i.(?i(+1(f(-i 1)))(z 0)))(f 9))n)))", "0");
        Calls c = new Calls(title).text("(:1(:2(:3(^(\\k.(:4(:5(k 6))))))))", 33).start(15).run(8, 8).state(4, 3).run(4, 4).state(4, 5)
            .run(1, 1).state(4, 6);
        c.run(1, 1).state(4, 6).run(1, 1).states(2, 15, 3, 1, 0, 0).shows("(1.(2.(3.6)))");
    }

    private static void roomIsOfOneRun() {
        Calls c = new Calls("a run makes at most");
        for (int i = 0; i < 2; i++) {
            c.value(times(60, "(:1 2)", "5"), "5").state(2, 60);
        }
        Calls b = new Calls("a run makes at most");
        b.value(times(119, "(@x 1 x)", "(@x 1 x)"), "throws.IllegalArgumentException").state(5, ROOM)
            .value("(@x(:1 2)(@y x(:y x)))", "((1.2).(1.2))").states(2, 9, 2, 2, 0, 0);
    }

    private static void formsDoNotGoOnAfterAFault() {
        String title = "A fault ends the run";
        String[] faults = {"q", "(+1 _)", "(A 1)", "(D _)", "(1)", "(/1 0)", "((\\.1)2)", "(^(\\.1))", "(^(\\k.(k)))"};
        for (String text : faults) {
            Calls c = new Calls(title).value("(!a" + text + ")", faultAnswer(text)).state(0, 3).global('a', "throws.NoSuchElementException");
            c.value(text, faultAnswer(text)).state(0, 3);
        }
        // The same for each fault ROOM: of a pair, of a BINDING by each form that makes one, of DEPTH.
        new Calls(title).value(times(60, "(:1 2)", "(!a(:3 4))"), "throws.IllegalArgumentException").global('a', "throws.NoSuchElementException");
        for (String form : new String[] {"(@x 1 x)", "(%x 1 x)", "((\\x.x)1)", "((\\xyz.x)1 2 3)", "(^(\\k.k))"}) {
            new Calls(title).value(times(119, "(@x 1 x)", form), "throws.IllegalArgumentException").states(3);
            new Calls(title).value(times(119, "(@x 1 x)", "(!a" + form + ")"), "throws.IllegalArgumentException").states(3)
                .global('a', "throws.NoSuchElementException");
        }
        new Calls(title).value("(%f(\\.(!a(f)))(f))", "throws.IllegalArgumentException").states(3).global('a', "throws.NoSuchElementException");
    }

    private static String faultAnswer(String text) {
        return text.equals("q") ? "throws.IllegalStateException" : text.startsWith("(/") ? "throws.ArithmeticException"
            : text.contains("\\") ? "throws.IllegalArgumentException" : "throws.UnsupportedOperationException";
    }

    private static void faultEndsTheRun() {
        Calls c = new Calls("A fault ends the run (what was made and assigned before stays as it shows)");
        c.text("(:(!a 5)(:(:1 2)(@x 1(/(!b x)0))))", 34).start(13).run(10, 10).states(1, 10, 1, 1, 3, 0)
            .run(10, "throws.ArithmeticException");
        c.states(3, 13, 1, 1, 0, ZERO).global('a', 5).global('b', 1).global('x', "throws.NoSuchElementException")
            .run(1, "throws.IllegalStateException");
        c.stop("throws.IllegalStateException").states(3, 13, 1, 1, 0, ZERO).start(13).states(1, 0, 0, 0, 0, 0)
            .global('a', "throws.NoSuchElementException");
    }
}
