/** Promises 5 to 11: given, start, run, stop, state, sign and global. */
public final class RunTest {
    private static final String REFUSED = "throws.IllegalArgumentException";
    private static final String BUSY = "throws.IllegalStateException";
    private static final String MISSING = "throws.NoSuchElementException";

    public static void main(String[] args) {
        givenNames();
        startsAndCounts();
        startsAfresh();
        runsInSteps();
        runsToFaults();
        stops();
        statesStepByStep();
        statesOfFaults();
        signsOfValues();
        longSigns();
        globalsNow();
        Calls.end();
    }

    private static void givenNames() {
        Calls c = new Calls("promise 5").given(-1, 0, REFUSED).given(26, 0, REFUSED).given(Integer.MIN_VALUE, 0, REFUSED)
            .given(Integer.MAX_VALUE, 0, REFUSED);
        c.given(0, 5, 1).given(0, 6, 1).given(25, 0, 2).given(3, Integer.MIN_VALUE, 3).given(0, 5, 3);
        c.text("(:a(:d z))", 10).start(5).given(1, 1, BUSY).given(26, 1, REFUSED).given(-1, 1, REFUSED).run(10, 5);
        c.shows("(5.(-2147483648.0))").global('b', MISSING);
        // What is given later is for later runs.
        c.given(0, 77, 3).global('a', 5).given(1, 8, 4).global('b', MISSING).start(5).global('a', 77).global('b', 8).stop(0);
        c.given(1, 9, 4).global('b', 8);
        // Assignments end with their run, what was given does not.
        c.clear(10).text("(!a _)", 6).start(2).run(2, 2).global('a', MISSING).start(2).global('a', 77).stop(0);
        for (int name = 0; name < 26; name++) {
            c.core.given(name, name);
        }
        c.given(12, 1, 26);
    }

    private static void startsAndCounts() {
        String[] texts = {"1", "1234", "a", "_", "(a)", "(a b)", "(a b c d)", "(+1 2)", "(!ab)", "(@ab c)", "(%abc)", "(\\.1)", "(\\abc.a)",
            "(?1 2 3)", "(&1 2)", "(A a)", "(^ a)", "((\\x.(+x 1))(*2 3))", "(((a)))"};
        int[] counts = {1, 1, 1, 1, 2, 3, 5, 3, 2, 3, 3, 2, 2, 4, 3, 2, 2, 8, 4};
        for (int i = 0; i < texts.length; i++) {
            new Calls("promise 6").text(texts[i], texts[i].length()).start(counts[i]).start(BUSY).state(0, 1).stop(0).start(counts[i]);
        }
        new Calls("many").text("((a)(b c d)(e f g)(h i j))", 26).start(1 + 2 + 4 + 4 + 4);
        new Calls("not whole").start(BUSY).text("(+1 2", 5).start(BUSY).states(0, 0, 0, 0, 0, 0).text(")", 6).start(3);
        new Calls("not whole later").text("7", 1).start(1).run(1, 1).clear(1).start(BUSY).text("(", 1).start(BUSY)
            .states(2, 1, 0, 0, 0, 0).shows("7");
    }

    private static void startsAfresh() {
        Calls c = new Calls("promise 6, afresh").given(0, 4, 1).text("(@x(:1 2)(!a(!b 3)))", 20);
        c.start(7).run(10, 7).states(2, 7, 1, 1, 0, 0).global('a', 3).global('b', 3);
        c.start(7).states(1, 0, 0, 0, 0, 0).global('a', 4).global('b', MISSING).sign(0, BUSY).run(3, 3).states(1, 3, 0, 0, 2, 0);
        c.stop(3).start(7).states(1, 0, 0, 0, 0, 0).run(10, 7).shows("3");
        c.clear(20).text("(/1 0)", 6).start(3).run(9, "throws.ArithmeticException").state(5, 3).start(3).states(1, 0, 0, 0, 0, 0);
    }

    private static void runsInSteps() {
        Calls c = new Calls("promise 7").run(1, BUSY).run(0, REFUSED).run(11, REFUSED).run(-1, REFUSED);
        c.run(Integer.MAX_VALUE, REFUSED).run(Integer.MIN_VALUE, REFUSED);
        c.text("(+(*2 3)(-9 4))", 15).start(7).run(0, REFUSED).run(11, REFUSED).states(1, 0, 0, 0, 0, 0);
        c.run(1, 1).run(2, 2).run(3, 3).state(0, 1).run(10, 1).state(0, 2).shows("11").run(1, BUSY).run(11, REFUSED);
        c.start(7).run(7, 7).state(0, 2).start(7).run(8, 7).start(7).run(6, 6).state(0, 1).run(1, 1).shows("11");
        // A loop that makes nothing and does not go deeper goes on without end.
        Calls loop = new Calls("loop").text("(%f(\\.(f))(f))", 14).start(6);
        for (int i = 0; i < 400; i++) {
            loop.run(10, 10);
        }
        loop.states(1, 4000, 0, 1, 0, 0).stop(4000);
    }

    private static void runsToFaults() {
        Calls c = new Calls("promise 7, faults");
        c.fault("q", 1, 1).fault("(+1 _)", 2, 3).fault("(/1 0)", 3, 3).fault("((\\.1)2)", 4, 3);
        c.text("1", REFUSED).clear(8).text("(+q 1)", 6).start(3).run(1, 1).run(1, BUSY).states(3, 2, 0, 0, 0, 1).run(1, BUSY)
            .states(3, 2, 0, 0, 0, 1).run(0, REFUSED).stop(BUSY).sign(0, BUSY).sign(60, REFUSED);
        // What was made and assigned before a fault stays.
        c.clear(6).text("(:(!a 5)(:(:1 2)(@x 1(/1 0))))", 30).start(12).run(10, 10).run(10, "throws.ArithmeticException");
        c.states(3, 12, 1, 1, 0, 3).global('a', 5);
    }

    private static void stops() {
        Calls c = new Calls("promise 8").stop(BUSY).text("(:(!a 5)(:1 2))", 15).stop(BUSY).start(6).stop(0).stop(BUSY);
        c.states(0, 0, 0, 0, 0, 0).start(6).run(6, 6).state(0, 2).stop(BUSY).state(0, 2);
        c.start(6).run(4, 4).states(1, 4, 0, 0, 2, 0).stop(4).states(0, 4, 0, 0, 0, 0).global('a', 5).sign(0, BUSY).run(1, BUSY);
        c.given(0, 1, 1).text(")", REFUSED).clear(15);
        c.text("(:(:1 2)(@x 1 2))", 17).start(7).run(6, 6).stop(6).states(0, 6, 1, 1, 0, 0).start(7).run(10, 7).shows("((1.2).2)");
    }

    private static void statesStepByStep() {
        Calls c = new Calls("promise 9").state(-1, REFUSED).state(6, REFUSED).state(Integer.MAX_VALUE, REFUSED)
            .state(Integer.MIN_VALUE, REFUSED).states(0, 0, 0, 0, 0, 0);
        c.text("(:(:1 2)(%x 3 x))", 17).start(7).states(1, 0, 0, 0, 0, 0).state(6, REFUSED);
        // A form waits as soon as its step is done.
        c.run(1, 1).states(1, 1, 0, 0, 1, 0).run(1, 1).states(1, 2, 0, 0, 2, 0).run(1, 1).states(1, 3, 0, 0, 2, 0);
        c.run(1, 1).states(1, 4, 1, 0, 1, 0).run(1, 1).states(1, 5, 1, 1, 2, 0).run(1, 1).states(1, 6, 1, 1, 1, 0);
        c.run(1, 1).states(2, 7, 2, 1, 0, 0).shows("((1.2).3)");
        Calls last = new Calls("last parts").text("(?1(&2(@a 3(%b 4 5)))6)", 23).start(10);
        int[] depths = {1, 0, 1, 0, 1, 0, 1, 0};
        int[] bindings = {0, 0, 0, 0, 0, 1, 2, 2};
        for (int i = 0; i < depths.length; i++) {
            last.run(1, 1).states(1, i + 1, 0, bindings[i], depths[i], 0);
        }
        last.run(1, 1).states(2, 9, 0, 2, 0, 0).shows("5");
        Calls call = new Calls("application").text("((\\ab.(-a b))7 2)", 17).start(7);
        call.run(1, 1).state(4, 1).run(1, 1).state(4, 1).run(1, 1).state(4, 1).state(3, 0).run(1, 1).states(1, 4, 0, 2, 0, 0)
            .run(1, 1).state(4, 1).run(9, 2).states(2, 7, 0, 2, 0, 0).shows("5");
    }

    private static void statesOfFaults() {
        Calls c = new Calls("promise 9, faults").text("(:(:1 2)(+_(!a(@x 1 x))))", 25).start(10)
            .run(10, "throws.UnsupportedOperationException");
        c.states(3, 10, 1, 1, 0, 2).global('a', 1);
        c.clear(25).states(3, 10, 1, 1, 0, 2).text("1", 1).states(3, 10, 1, 1, 0, 2).start(1).run(1, 1).states(2, 1, 0, 0, 0, 0);
    }

    private static void signsOfValues() {
        Calls c = new Calls("promise 10").sign(0, BUSY).sign(-1, REFUSED).sign(60, REFUSED).sign(Integer.MAX_VALUE, REFUSED)
            .sign(Integer.MIN_VALUE, REFUSED).sign(59, BUSY);
        c.text("0", 1).start(1).sign(0, BUSY).sign(60, REFUSED).run(1, 1).sign(0, 48).sign(1, -1).sign(59, -1).sign(60, REFUSED)
            .sign(-1, REFUSED);
        c.given(0, Integer.MIN_VALUE, 1).given(1, Integer.MAX_VALUE, 2).given(2, -7, 3);
        c.value("a", "-2147483648").value("b", "2147483647").value("c", "-7").value("0070", "70").value("9999", "9999");
        c.value("_", "_").value("(\\.1)", "L").value("(^(\\k.k))", "K").value("(:1 2)", "(1.2)").value("(:_ _)", "(_._)");
        c.value("(:(:1 2)(:(\\.1)(^(\\k.k))))", "((1.2).(L.K))").value("(:a(:b _))", "(-2147483648.(2147483647._))");
    }

    private static void longSigns() {
        Calls c = new Calls("promise 10, long").given(0, Integer.MIN_VALUE, 1);
        c.value("(:(:(:a a)(:a a))(:(:a a)(:a a)))", "(((-2147483648.-2147483648).(-2147483648.-2147483648)).((-21");
        c.value("(:(:1111(:2222(:3333(:4444(:5555 _)))))(:6666(:7777 88)))", "((1111.(2222.(3333.(4444.(5555._))))).(6666.(7777.88)))");
        c.value("(:(:1111(:2222(:3333(:4444(:5555 _)))))(:6666(:7777 8888)))", "((1111.(2222.(3333.(4444.(5555._))))).(6666.(7777.8888)))");
        c.value("(:(:1111(:2222(:3333(:4444(:5555 _)))))(:6666(:7777(:12 _))))",
            "((1111.(2222.(3333.(4444.(5555._))))).(6666.(7777.(12._))))");
        c.sign(58, (int) ')').sign(59, -1);
        c.value("(:(:1111(:2222(:3333(:4444(:5555 _)))))(:6666(:7777(:123 _))))",
            "((1111.(2222.(3333.(4444.(5555._))))).(6666.(7777.(123._))))");
        c.sign(59, (int) ')');
        new Calls("promise 10, deep").value("(%f(\\n.(?n(:(f(-n 1))1)_))(f 11))", "(((((((((((_.1).1).1).1).1).1).1).1).1).1).1)");
        // Shared halves would make a text of more than 2 to the power of 60 signs.
        new Calls("promise 10, shared").value(sixtyPairs("(:p p)"), "(".repeat(60)).state(2, 60);
        new Calls("promise 10, first").value(sixtyPairs("(:p 1)"), "(".repeat(60));
        new Calls("promise 10, second").value(sixtyPairs("(:1 p)"), "(1.".repeat(20));
    }

    private static String sixtyPairs(String pair) {
        return "(&(!p _)(%f(\\.(?(=n 0)p(&(!p" + pair + ")(&(!n(-n 1))(f)))))(&(!n 60)(f))))";
    }

    private static void globalsNow() {
        Calls c = new Calls("promise 11").globalAt(-1, REFUSED).globalAt(26, REFUSED).globalAt(Integer.MIN_VALUE, REFUSED)
            .globalAt(Integer.MAX_VALUE, REFUSED).global('a', MISSING).given(0, 5, 1).global('a', MISSING);
        c.text("(&(!a(+a 1))(&(!b a)(!a _)))", 28).start(10).global('a', 5).global('b', MISSING).run(5, 5).global('a', 6);
        c.run(3, 3).global('b', 6).run(2, 2).global('a', MISSING).global('b', 6).global('z', MISSING).globalAt(26, REFUSED);
        c.start(10).run(5, 5).stop(5).global('a', 6).global('b', MISSING).clear(28).global('a', 6);
        // Local names hide the global ones.
        c.value("(@a 1(!a 2))", "2").global('a', 5).value("(@b 1(!a 2))", "2").global('a', 2).global('b', MISSING);
        c.value("(!c(:1 2))", "(1.2)").global('c', MISSING).value("(!c(\\.1))", "L").global('c', MISSING);
        c.value("(!c(^(\\k.k)))", "K").global('c', MISSING).value("(!c(-0 9))", "-9").global('c', -9);
        c.fault("(+(!a 3)q)", 1, 4).global('a', 3);
    }
}
