/** The Terms of the document: what each form means, its faults, and the room of a run. */
public final class LanguageTest {
    private static final int NAME = ContinuationCore.NAME;
    private static final int KIND = ContinuationCore.KIND;
    private static final int ZERO = ContinuationCore.ZERO;
    private static final int COUNT = ContinuationCore.COUNT;
    private static final int ROOM = ContinuationCore.ROOM;

    public static void main(String[] args) {
        arithmetic();
        comparing();
        pairs();
        choiceAndSequence();
        namesAndScopes();
        closures();
        continuations();
        continuationsCalledAgain();
        orderOfFaults();
        roomForPairs();
        roomForBindings();
        roomForDepth();
        Calls.end();
    }

    private static void arithmetic() {
        Calls c = new Calls("arithmetic").given(0, Integer.MIN_VALUE, 1).given(1, Integer.MAX_VALUE, 2).given(2, -1, 3);
        c.value("(+2 3)", "5").value("(-2 3)", "-1").value("(*2 3)", "6").value("(/7 2)", "3").value("(/(-0 7)2)", "-3");
        c.value("(/7(-0 2))", "-3").value("(/(-0 7)(-0 2))", "3").value("(/0 5)", "0").value("(+b 1)", "-2147483648");
        c.value("(-a 1)", "2147483647").value("(*b b)", "1").value("(*a c)", "-2147483648").value("(/a c)", "-2147483648");
        c.value("(*9999(*9999 9999))", "-1027349969").value("(-0 a)", "-2147483648");
        c.fault("(/1 0)", ZERO, 3).fault("(/a(-1 1))", ZERO, 5).fault("(/_ 0)", KIND, 3).fault("(/1 _)", KIND, 3);
        Calls kinds = new Calls("arithmetic kinds");
        for (String form : new String[] {"+", "-", "*", "/", "<"}) {
            for (String other : new String[] {"_", "(:1 2)", "(\\.1)", "(^(\\k.k))"}) {
                kinds.due(form + other, faultOf("(" + form + " 1" + other + ")"), KIND);
                kinds.due(other + form, faultOf("(" + form + other + " 1)"), KIND);
            }
        }
    }

    private static int faultOf(String text) {
        Calls c = new Calls(text);
        c.put(text);
        c.core.start();
        Calls.answerOf(() -> c.core.run(10));
        return c.core.state(5);
    }

    private static void comparing() {
        Calls c = new Calls("comparing").given(0, Integer.MIN_VALUE, 1).given(1, Integer.MAX_VALUE, 2);
        c.value("(<1 2)", "1").value("(<2 2)", "0").value("(<2 1)", "0").value("(<a b)", "1").value("(<b a)", "0");
        c.value("(=1 1)", "1").value("(=1 2)", "0").value("(=7000 7000)", "1").value("(=_ _)", "1").value("(=_ 0)", "0")
            .value("(=0 _)", "0");
        c.value("(=(:1 2)(:1 2))", "0").value("(@p(:1 2)(=p p))", "1").value("(@p(:1 2)(@q p(=q p)))", "1");
        c.value("(=(\\.1)(\\.1))", "0").value("(@f(\\.1)(=f f))", "1").value("(@f(\\.(\\.1))(=(f)(f)))", "0");
        c.value("(@k(^(\\k.k))(=k k))", "1").value("(@p(:1 2)(=p 1))", "0").value("(=(\\.1)_)", "0");
        // Two continuations with the same chain are two.
        c.value("(@k(^(\\k.k))(?(P k)(=(A k)(D k))(^(\\j.(k(:k j))))))", "0");
        c.value("(^(\\k.(^(\\j.(=k j)))))", "0").value("(^(\\k.(@j k(=k j))))", "1");
    }

    private static void pairs() {
        Calls c = new Calls("pairs").value("(A(:1 2))", "1").value("(D(:1 2))", "2").value("(D(A(:(:1 2)3)))", "2");
        c.value("(P(:1 2))", "1").value("(P 1)", "0").value("(P _)", "0").value("(P(\\.1))", "0").value("(P(^(\\k.k)))", "0");
        c.fault("(A 1)", KIND, 2).fault("(D _)", KIND, 2).fault("(A(\\.1))", KIND, 2).fault("(D(^(\\k.k)))", KIND, 4)
            .fault("(P q)", NAME, 2);
        c.value("(@p(:1 2)(@q(:p p)(=(A q)(D q))))", "1");
    }

    private static void choiceAndSequence() {
        Calls c = new Calls("choice").value("(?1 2 3)", "2").value("(?0 2 3)", "3").value("(?_ 2 3)", "2").value("(?(:0 0)2 3)", "2");
        c.value("(?(\\.0)2 3)", "2").value("(?(-1 1)q 3)", "3").value("(?(-0 1)2 q)", "2").value("(?0000 2 3)", "3")
            .fault("(?q 1 2)", NAME, 2);
        c.value("(&1 2)", "2").value("(&(!a 5)(+a 1))", "6").fault("(&q 1)", NAME, 2).fault("(&1 q)", NAME, 3).value("(&_ _)", "_");
    }

    private static void namesAndScopes() {
        Calls c = new Calls("names").given(0, 7, 1);
        c.value("a", "7").fault("b", NAME, 1).value("(!b 3)", "3").value("(!b(+1 2))", "3").value("(&(!b 3)b)", "3")
            .fault("(!b b)", NAME, 2);
        c.value("(@a 1 a)", "1").value("(@a(+a 1)a)", "8").value("(@a 1(@a 2 a))", "2").value("(+(@a 1 a)a)", "8")
            .value("(@a 1(@b 2 a))", "1");
        c.value("(@a 1(&(@a 2(!a 3))a))", "1").value("(@a 1(&(!a 3)a))", "3").fault("(@b b 1)", NAME, 2);
        // The binding of a recursive name has no value at first, though a global one has.
        c.fault("(%a a 1)", NAME, 2).value("(%a 1 a)", "1").value("(%a(!a 5)a)", "5").value("(%a(&(!a 5)(+a 1))a)", "6");
        c.value("(%f(\\n.(?(<n 1)0(+n(f(-n 1)))))(f 10))", "55").value("(+(%a 1 a)a)", "8").value("(%a(\\.a)(=a(a)))", "1");
        c.value("(@z 1(!z(\\.z)))", "L");
        c.value("(@c 0(@f(\\.(!c(+c 1)))(&(f)(&(f)(f)))))", "3");
        c.value("(@m(\\.(@c 0(\\.(!c(+c 1)))))(@f(m)(@g(m)(&(f)(&(f)(:(f)(g)))))))", "(3.1)");
    }

    private static void closures() {
        Calls c = new Calls("closures").given(0, 7, 1);
        c.value("((\\.5))", "5").value("((\\x.x)5)", "5").value("((\\xy.(-x y))9 4)", "5").value("((\\xyz.(:x(:y z)))1 2 3)", "(1.(2.3))");
        c.fault("((\\.5)1)", COUNT, 3).fault("((\\x.x))", COUNT, 2).fault("((\\x.x)1 2)", COUNT, 4).fault("((\\xyz.x)1 2)", COUNT, 4);
        c.fault("((\\xy.x)1 2 3)", COUNT, 5).fault("(1)", KIND, 2).fault("(1 2)", KIND, 3).fault("(_)", KIND, 2)
            .fault("((:1 2)1)", KIND, 5);
        // The scope is where the closure was made, not where it is called.
        c.value("(@a 1(@f(\\.a)(@a 2(f))))", "1").value("(@f(\\.a)(@a 2(f)))", "7").value("(@f(\\x.(\\y.(-x y)))((f 9)4))", "5");
        c.value("((\\a.(&(!a 2)a))1)", "2").value("(&((\\a.(!a 2))1)a)", "7").value("((\\f.(f f))(\\x.5))", "5");
        c.state(3, 2).value("((\\ab.((\\ba.(:a b))a b))1 2)", "(2.1)").state(3, 4);
    }

    private static void continuations() {
        Calls c = new Calls("continuations").value("(^(\\k.5))", "5").value("(+1(^(\\k.(k 5))))", "6").value("(+1(^(\\k.(*9(k 5)))))", "6");
        c.value("(^(\\k.(+1(k 5))))", "5").value("(&(^(\\k.(!a k)))(?(P b)1 2))", "throws.IllegalStateException");
        c.fault("(^ 1)", KIND, 2).fault("(^ _)", KIND, 2).fault("(^(:1 2))", KIND, 4).fault("(^(\\.1))", COUNT, 2)
            .fault("(^(\\ab.1))", COUNT, 2);
        c.fault("(^(\\k.(k)))", COUNT, 4).fault("(^(\\k.(k 1 2)))", COUNT, 6).fault("(+_(^(\\k.(k 5))))", KIND, 7);
        // A continuation may be what is called with a continuation.
        c.value("(^(\\k.(^ k)))", "K").value("(:1(^(\\k.(^ k))))", "(1.K)").value("(P(^(\\k.(:1(^ k)))))", "0")
            .value("(^(^(\\k.(k(\\j.3)))))", "3");
        c.value("(^(^(\\k.k)))", "K").value("((^(\\k.k))(\\x.5))", "5").value("(((^(\\k.k))(\\x.x))5)", "5");
        // Its end is the run's end when nothing waits for the form.
        c.value("(^(\\k.(:1(:2(k 3)))))", "3").state(2, 0);
    }

    private static void continuationsCalledAgain() {
        Calls c = new Calls("again");
        // Values of parts before are those from when the form began to wait; assignments stay.
        c.value("(@n 0(@p(:(!n(+n 1))(^(\\k.(!z k))))(?(<n 3)(&(!n(+n 5))(z n))(:n p))))", "(6.(1.6))");
        c.value("(@n 0(&(+(!n(+n 1))(^(\\k.(&(!z k)0))))(?(<n 4)(&(!n(+n 1))(z 0))n)))", "4");
        // The function and the arguments before are kept, too, each time the same.
        c.value("(@n 0(@l _(&(!l(:((\\xyz.(-x(-y z)))10 3(^(\\k.(&(!z k)0))))l))(?(<n 3)(&(!n(+n 1))(z n))l))))", "(10.(9.(8.(7._))))");
        c.value("(@n 0(&((\\xy.(!s(+x y)))10(^(\\k.(&(!z k)0))))(?(<n 3)(&(!n(+n 1))(z n))s)))", "13");
        // A local form makes a new binding each time, a recursive one keeps its own.
        c.value("(@n 0(@x(^(\\k.(&(!z k)0)))(&(?(=n 0)(!f(\\.x))0)(?(<n 2)(&(!n(+n 1))(z n))(:x(f))))))", "(2.0)").state(3, 5);
        c.value("(@n 0(%x(^(\\k.(&(!z k)0)))(&(?(=n 0)(!f(\\.x))0)(?(<n 2)(&(!n(+n 1))(z n))(:x(f))))))", "(2.2)").state(3, 3);
        c.value("(@n 0(&(?(^(\\k.(!z k)))(!n(+n 1))(!n(+n 9)))(?(<n 3)(z n)(?(<n 9)(z 0)n))))", "12");
    }

    private static void orderOfFaults() {
        Calls c = new Calls("order");
        c.fault("(+_ q)", NAME, 3).fault("(+q _)", NAME, 2).fault("(1 q)", NAME, 3).fault("(q 1)", NAME, 2).fault("(1(/1 0)q)", ZERO, 5);
        c.fault("((\\.1)q)", NAME, 3).fault("(A q)", NAME, 2).fault("(^ q)", NAME, 2).fault("(!a q)", NAME, 2).fault("(:q(/1 0))", NAME, 2);
        c.fault("(1 2 3 4)", KIND, 5).value("(:(!a 1)(:a(!a 2)))", "(1.(1.2))").value("(-(!a 5)(!a(-a 3)))", "3");
    }

    /** Evaluates x so many times, then y: 7 steps, 12 and those of x each time (5 before it), 4 and those of y. */
    private static String times(int n, String x, String y) {
        return "(&(!n " + n + ")(%f(\\.(?(=n 0)" + y + "(&" + x + "(&(!n(-n 1))(f)))))(f)))";
    }

    private static void roomForPairs() {
        Calls c = new Calls("pairs").value(times(60, "(:1 2)", "5"), "5").states(2, 7 + 60 * 15 + 5, 60, 1, 0, 0);
        c.value(times(59, "(:1 2)", "(:3 4)"), "(3.4)").state(2, 60);
        Calls over = new Calls("61 pairs");
        over.fault(times(61, "(:1 2)", "5"), ROOM, 7 + 60 * 15 + 8).state(2, 60);
        over.fault(times(60, "(:1 2)", "(:3 4)"), ROOM, 7 + 60 * 15 + 7).state(2, 60);
        over.value("(:1 2)", "(1.2)").state(2, 1);
    }

    private static void roomForBindings() {
        Calls c = new Calls("bindings").value(times(119, "(@x 1 x)", "5"), "5").state(3, 120);
        Calls over = new Calls("121 bindings by a local name");
        over.put(times(120, "(@x 1 x)", "5"));
        over.core.start();
        int done = 0;
        String answer = "10";
        while (answer.equals("10")) {
            answer = Calls.answerOf(() -> over.core.run(10));
            done++;
        }
        over.due("answer", answer, "throws.IllegalArgumentException");
        over.states(3, 7 + 119 * 15 + 7, 0, 120, 0, ROOM).due("calls", done, 180);
        new Calls("121 by a recursive name").fault(times(120, "(%x 1 x)", "5"), ROOM, 7 + 119 * 15 + 6).state(3, 120);
        // Names of a closure get bindings one by one until there is no room.
        new Calls("121 as the second name").fault(times(60, "((\\xy.x)1 2)", "5"), ROOM, 7 + 59 * 17 + 9).state(3, 120);
        new Calls("121 as the third name").fault(times(40, "((\\xyz.x)1 2 3)", "5"), ROOM, 7 + 39 * 18 + 10).state(3, 120);
        new Calls("room as the last name").value(times(39, "((\\xyz.x)1 2 3)", "(@x 1(@y 2 x))"), "1").state(3, 120);
        new Calls("no names, no bindings").value(times(150, "((\\.1))", "5"), "5").state(3, 1);
        new Calls("new room").fault(times(120, "(@x 1 x)", "5"), ROOM, 7 + 119 * 15 + 7).value("(@x 1 x)", "1").state(3, 1);
    }

    private static void roomForDepth() {
        Calls c = new Calls("depth").value("(%f(\\n.(?n(+1(f(-n 1)))0))(f 22))", "22");
        c.fault("(%f(\\n.(?n(+1(f(-n 1)))0))(f 23))", ROOM, 5 + 22 * 9 + 7).state(3, 1 + 23);
        Calls deep = new Calls("depth 24").text("(%f(\\n.(?n(+1(f(-n 1)))0))(f 22))", 33).start(15);
        int most = 0;
        for (int step = 0; step < 5 + 22 * 9 + 3; step++) {
            deep.run(1, 1);
            most = Math.max(most, deep.core.state(4));
        }
        deep.due("most", most, 24);
        deep.shows("22");
        // A form that would be the 25th to wait fails in its own step.
        String loop = "(%f(\\n.(+1(f n)))(f 0))";
        Calls over = new Calls("depth 25").fault(loop, ROOM, 123).state(3, 25);
        over.text("", "nothing put").clear(loop.length()).text(loop, loop.length()).start(10);
        for (int i = 0; i < 12; i++) {
            over.run(10, 10);
        }
        over.run(1, 1).state(4, 24).run(1, 1).state(4, 24).run(1, "throws.IllegalArgumentException").state(4, 0).state(1, 123);
        // The binding of a recursive form is made before the form waits.
        new Calls("depth by a recursive name").fault("(%f(\\.(+1(%x(f)x)))(f))", ROOM, 4 + 11 * 5 + 4).state(3, 13)
            .fault("(+0(%f(\\.(+1(%x(f)x)))(f)))", ROOM, 6 + 11 * 5 + 3).state(3, 13);
        // A last part does not make the chain longer, nor does a continuation that goes back.
        new Calls("last").value("(%f(\\n.(?n(&1(@x 1(%y 2(f(-n 1)))))0))(f 39))", "0").state(3, 119);
        new Calls("back").value("(&(^(\\k.(!z k)))(&(!n(+n 1))(?(<n 60)(+1(z 0))n)))", "throws.IllegalStateException")
            .given(13, 0, 1).value("(&(^(\\k.(!z k)))(&(!n(+n 1))(?(<n 60)(+1(z 0))n)))", "60");
    }
}
