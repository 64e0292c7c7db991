/** The edges of runs, one test for each sentence of promises 5 to 11 that names one, and the 512 calls of an object. */
public final class RunEdgesTest {
    private static final String REFUSED = "throws.IllegalArgumentException";
    private static final String BUSY = "throws.IllegalStateException";
    private static final String MISSING = "throws.NoSuchElementException";
    private static final int[] FAR = {Integer.MIN_VALUE, -1000, -2, -1, 26, 27, 255, 1000, Integer.MAX_VALUE};

    public static void main(String[] args) {
        namesOfGiven();
        givenWhileRunning();
        nameOfGivenIsTestedBefore();
        valuesOfGiven();
        countOfGiven();
        givenAtTheBeginningOfEachRun();
        startWhileRunning();
        startOfATextNotWhole();
        startFromNothing();
        countOfExpressions();
        stepsOfACall();
        runWithoutARun();
        asManyStepsAsThereAre();
        exceptionOfEachFault();
        refusedRunChangesNothing();
        stopWithoutARun();
        stopAtEachStep();
        whatOfState();
        statesBeforeTheFirstRun();
        statesOfEachStatus();
        stepWithAFaultIsCounted();
        placesOfSigns();
        signOfARunNotEnded();
        placeOfSignIsTestedBefore();
        signBehindTheText();
        sixtySigns();
        signOfEachKind();
        intsAsText();
        namesOfGlobal();
        globalBeforeTheFirstRun();
        globalOfAnotherKind();
        globalOfTheLatestRunNow();
        all512Calls();
        laterCallsEnd();
        Calls.end();
    }

    private static void namesOfGiven() {
        Calls c = new Calls("name 0 .. 25 stands for a .. z, else IllegalArgumentException");
        for (int name : FAR) {
            c.given(name, 1, REFUSED);
        }
        for (int name = 0; name < 26; name++) {
            c.given(name, 100 + name, name + 1);
        }
        c.text("(:a(:m z))", 10).start(5).run(5, 5).shows("(100.(112.125))");
    }

    private static void givenWhileRunning() {
        Calls c = new Calls("given: A run is going on").given(0, 1, 1).text("(:a b)", 6).start(3).given(0, 2, BUSY).given(1, 2, BUSY)
            .run(2, 2).given(0, 3, BUSY);
        c.global('a', 1).global('b', MISSING).stop(2).given(1, 7, 2).start(3).given(25, 1, BUSY).run(3, 3).shows("(1.7)").given(1, 8, 2);
        new Calls("given: no run any more").text("a", 1).start(1).run(1, BUSY).given(0, 1, 1);
    }

    private static void nameOfGivenIsTestedBefore() {
        Calls c = new Calls("the name is tested before").text("1", 1).start(1).given(0, 1, BUSY).given(25, 1, BUSY);
        for (int name : FAR) {
            c.given(name, 1, REFUSED);
        }
    }

    private static void valuesOfGiven() {
        for (int value : new int[] {Integer.MIN_VALUE, Integer.MIN_VALUE + 1, -1, 0, 1, 10000, Integer.MAX_VALUE - 1, Integer.MAX_VALUE}) {
            new Calls("any value").given(3, value, 1).text("d", 1).start(1).global('d', value).run(1, 1).shows("" + value)
                .global('d', value);
        }
    }

    private static void countOfGiven() {
        Calls c = new Calls("Answers how many GLOBAL names were given values").given(5, 1, 1).given(5, 1, 1).given(5, 0, 1)
            .given(6, 0, 2).given(26, 0, REFUSED);
        c.given(0, 0, 3).given(25, 0, 4).given(6, 9, 4).text("(!b 1)", 6).start(2).run(2, 2).given(0, 1, 4).given(1, 1, 5);
    }

    private static void givenAtTheBeginningOfEachRun() {
        Calls c = new Calls("from now on, at the beginning of each run").given(0, 1, 1).text("(!a(+a 1))", 10);
        for (int i = 0; i < 3; i++) {
            c.start(4).global('a', 1).run(4, 4).shows("2").global('a', 2);
        }
        c.given(0, 8, 1).global('a', 2).start(4).global('a', 8).run(4, 4).shows("9").start(4).stop(0).global('a', 8);
    }

    private static void startWhileRunning() {
        Calls c = new Calls("start: A run is going on").text("(a)", 3).given(0, 1, 1).start(2).start(BUSY).run(1, 1).start(BUSY)
            .states(1, 1, 0, 0, 1, 0);
        c.stop(1).start(2).run(2, "throws.UnsupportedOperationException").start(2).start(BUSY).states(1, 0, 0, 0, 0, 0);
    }

    private static void startOfATextNotWhole() {
        Calls c = new Calls("start: the text is not WHOLE").start(BUSY).text("(", 1).start(BUSY).text("+1", 3).start(BUSY).text(" 2", 5)
            .start(BUSY);
        c.states(0, 0, 0, 0, 0, 0).text(")", 6).start(3).run(3, 3).shows("3").clear(6).start(BUSY).states(2, 3, 0, 0, 0, 0).shows("3");
    }

    private static void startFromNothing() {
        Calls c = new Calls("no pairs and BINDINGS were made, the GLOBAL ones are as given").given(0, 1, 1)
            .text("(@x(:1 2)(:(!a x)(!b 5)))", 25);
        for (int i = 0; i < 3; i++) {
            c.start(9).states(1, 0, 0, 0, 0, 0).global('a', 1).global('b', MISSING).sign(0, BUSY).run(9, 9).states(2, 9, 2, 1, 0, 0);
            c.global('a', MISSING).global('b', 5).shows("((1.2).5)");
        }
        c.start(9).run(7, 7).stop(7).states(0, 7, 1, 1, 0, 0).start(9).states(1, 0, 0, 0, 0, 0).run(9, 9).shows("((1.2).5)");
    }

    private static void countOfExpressions() {
        String title = "Answers how many EXPRESSIONS the text has";
        String[] texts = {"0", "9999", "a", "_", "(f)", "(f    )", "(fghi)", "(!a 1)", "(@a 1 2)", "(%a 1 2)", "(\\.1)", "(\\abc.1)", "(?1 2 3)", "(A 1)", "(:1 2)"};
        int[] counts = {1, 1, 1, 1, 2, 2, 5, 2, 3, 3, 2, 2, 4, 2, 3};
        for (int i = 0; i < texts.length; i++) {
            new Calls(title).text(texts[i], texts[i].length()).start(counts[i]);
        }
        // No text of 120 signs has more than applications of four parts each give it.
        StringBuilder most = new StringBuilder("a");
        int at = 0;
        for (int forms = 0; forms < 23; forms++) {
            int found = most.indexOf("a", at) < 0 ? most.indexOf("a") : most.indexOf("a", at);
            most.replace(found, found + 1, "(aaaa)");
            at = found + 6;
        }
        new Calls(title).text(most.toString(), 116).whole(1).start(93);
        String deep = "(".repeat(12) + "f" + ("abc" + ")").repeat(12);
        new Calls(title).text(deep, 61).start(12 + 1 + 36);
    }

    private static void stepsOfACall() {
        Calls c = new Calls("steps not 1 .. 10: IllegalArgumentException").text("(%f(\\.(f))(f))", 14).start(6);
        for (int steps : new int[] {Integer.MIN_VALUE, -10, -1, 0, 11, 12, 100, Integer.MAX_VALUE}) {
            c.run(steps, REFUSED);
        }
        c.states(1, 0, 0, 0, 0, 0);
        int all = 0;
        for (int steps = 1; steps <= 10; steps++) {
            all += steps;
            c.run(steps, steps).state(1, all);
        }
    }

    private static void runWithoutARun() {
        Calls c = new Calls("run: No run is going on").run(1, BUSY).run(10, BUSY).run(0, REFUSED).run(11, REFUSED).text("1", 1)
            .run(1, BUSY).start(1).run(10, 1);
        c.run(1, BUSY).run(0, REFUSED).run(11, REFUSED).start(1).stop(0).run(1, BUSY).run(11, REFUSED).clear(1).text("q", 1).start(1)
            .run(1, BUSY).state(5, 1);
        c.run(1, BUSY).state(1, 1).run(-1, REFUSED);
    }

    private static void asManyStepsAsThereAre() {
        String text = "(+(+1 2)(+3 4))";
        for (int first = 1; first <= 10; first++) {
            Calls c = new Calls("Does so many STEPS, or as many as there are until the run ends").text(text, 15).start(7)
                .run(first, Math.min(first, 7));
            c.state(0, first < 7 ? 1 : 2).state(1, Math.min(first, 7)).run(10, first < 7 ? 7 - first : BUSY).states(2, 7, 0, 0, 0, 0)
                .shows("10");
        }
    }

    private static void exceptionOfEachFault() {
        String[] texts = {"(+1 q)", "(+1 _)", "(/1 0)", "((\\.1)2)"};
        String[] thrown = {BUSY, "throws.UnsupportedOperationException", "throws.ArithmeticException", REFUSED};
        for (int i = 0; i < texts.length; i++) {
            // The last of three steps has the fault, however many were asked for.
            for (int steps = 3; steps <= 10; steps++) {
                new Calls("By a fault the run ends").text(texts[i], texts[i].length()).start(i == 3 ? 4 : 3).run(steps, thrown[i])
                    .states(3, 3, 0, 0, 0, i + 1).run(1, BUSY).stop(BUSY).sign(0, BUSY).start(i == 3 ? 4 : 3);
            }
            new Calls("no fault before its step").text(texts[i], texts[i].length()).start(i == 3 ? 4 : 3).run(2, 2).states(1, 2, 0, 0, 1, 0)
                .run(1, thrown[i]).states(3, 3, 0, 0, 0, i + 1);
        }
        String deep = "(%f(\\.(+1(f)))(f))";
        Calls c = new Calls("for ROOM IllegalArgumentException").text(deep, 18).start(8).run(10, 10);
        for (int i = 0; i < 8; i++) {
            c.run(10, 10);
        }
        c.run(7, 7).states(1, 97, 0, 1, 24, 0).run(1, 1).states(1, 98, 0, 1, 24, 0).run(1, REFUSED).states(3, 99, 0, 1, 0, 5);
    }

    private static void refusedRunChangesNothing() {
        Calls c = new Calls("A call that throws changes nothing").text("(:1(:2 3))", 10).start(5).run(3, 3).states(1, 3, 0, 0, 2, 0);
        c.run(0, REFUSED).run(11, REFUSED).start(BUSY).text("1", BUSY).clear(BUSY).given(0, 1, BUSY).given(26, 1, REFUSED).state(6, REFUSED)
            .sign(0, BUSY).sign(60, REFUSED).globalAt(0, MISSING).globalAt(26, REFUSED);
        c.states(1, 3, 0, 0, 2, 0).run(10, 2).states(2, 5, 2, 0, 0, 0).shows("(1.(2.3))");
    }

    private static void stopWithoutARun() {
        Calls c = new Calls("stop: None is").stop(BUSY).text("7", 1).stop(BUSY).start(1).stop(0).stop(BUSY).states(0, 0, 0, 0, 0, 0)
            .start(1).run(1, 1);
        c.stop(BUSY).states(2, 1, 0, 0, 0, 0).shows("7").clear(1).text("q", 1).start(1).run(1, BUSY).stop(BUSY).states(3, 1, 0, 0, 0, 1);
    }

    private static void stopAtEachStep() {
        for (int steps = 0; steps < 7; steps++) {
            Calls c = new Calls("Answers its STEPS so far").text("(@x(:1 2)(:x 3))", 16).start(7);
            for (int i = 0; i < steps; i++) {
                c.run(1, 1);
            }
            c.stop(steps).states(0, steps, steps < 4 ? 0 : 1, steps < 4 ? 0 : 1, 0, 0).run(1, BUSY).sign(0, BUSY).text(")", REFUSED)
                .clear(16);
        }
    }

    private static void whatOfState() {
        Calls c = new Calls("Another what: IllegalArgumentException");
        for (int i = 0; i < 3; i++) {
            for (int what : new int[] {Integer.MIN_VALUE, -1, 6, 7, 26, Integer.MAX_VALUE}) {
                c.state(what, REFUSED);
            }
            c.state(0, i).state(5, 0);
            if (i == 0) {
                c.text("1", 1).start(1);
            } else {
                c.run(1, i == 1 ? 1 : BUSY);
            }
        }
    }

    private static void statesBeforeTheFirstRun() {
        Calls c = new Calls("All 0 before the first run").states(0, 0, 0, 0, 0, 0).given(0, 5, 1).text("(:1 2)", 6)
            .states(0, 0, 0, 0, 0, 0).run(1, BUSY).stop(BUSY);
        c.states(0, 0, 0, 0, 0, 0).start(3).states(1, 0, 0, 0, 0, 0);
    }

    private static void statesOfEachStatus() {
        Calls c = new Calls("of the latest run").text("(:(@x 1 x)(:1 a))", 17).start(7).run(5, 5).states(1, 5, 0, 1, 2, 0);
        c.run(1, 1).states(1, 6, 0, 1, 2, 0).run(1, BUSY).states(3, 7, 0, 1, 0, 1).given(0, 2, 1).states(3, 7, 0, 1, 0, 1);
        c.start(7).states(1, 0, 0, 0, 0, 0).run(7, 7).states(2, 7, 2, 1, 0, 0).clear(17).text("1", 1).states(2, 7, 2, 1, 0, 0);
        c.start(1).stop(0).states(0, 0, 0, 0, 0, 0);
    }

    private static void stepWithAFaultIsCounted() {
        new Calls("its STEPS begun, the one with a fault counted").fault("q", 1, 1).fault("(q)", 1, 2).fault("(1)", 2, 2)
            .fault("(:1(:2 q))", 1, 5)
            .fault("((\\x.(/x 0))1)", 3, 6).fault("((\\x.x))", 4, 2);
    }

    private static void placesOfSigns() {
        Calls c = new Calls("i not 0 .. 59: IllegalArgumentException").text("123", 3).start(1).run(1, 1);
        for (int i : new int[] {Integer.MIN_VALUE, -2, -1, 60, 61, 100, Integer.MAX_VALUE}) {
            c.sign(i, REFUSED);
        }
        c.sign(0, (int) '1').sign(1, (int) '2').sign(2, (int) '3').sign(3, -1).sign(58, -1).sign(59, -1);
    }

    private static void signOfARunNotEnded() {
        Calls c = new Calls("The run is not ENDED: IllegalStateException").sign(0, BUSY).sign(59, BUSY).text("(:1 a)", 6).sign(0, BUSY)
            .start(3).sign(0, BUSY);
        c.run(1, 1).sign(0, BUSY).stop(1).sign(0, BUSY).start(3).run(3, BUSY).sign(0, BUSY).sign(59, BUSY).given(0, 5, 1).start(3)
            .run(3, 3).sign(0, (int) '(');
        // A value shows until the next run is started.
        c.clear(6).text("9", 1).sign(1, (int) '1').start(1).sign(1, BUSY).run(1, 1).sign(0, (int) '9').sign(1, -1).start(1).stop(0)
            .sign(0, BUSY);
    }

    private static void placeOfSignIsTestedBefore() {
        Calls c = new Calls("i is tested before").sign(-1, REFUSED).sign(60, REFUSED).text("q", 1).start(1).sign(-1, REFUSED)
            .sign(60, REFUSED).run(1, BUSY);
        c.sign(-1, REFUSED).sign(60, REFUSED).start(1).stop(0).sign(60, REFUSED).sign(Integer.MIN_VALUE, REFUSED);
    }

    private static void signBehindTheText() {
        Calls c = new Calls("Answers sign i, NONE if the text is not so long");
        for (String value : new String[] {"0", "_", "42", "9999"}) {
            c.value(value, value);
            for (int i = value.length(); i < 60; i += 11) {
                c.sign(i, ContinuationCore.NONE);
            }
        }
    }

    /** A pair whose text has 42 signs, the last two being brackets, and before these the signs of x. */
    private static String longPair(String x) {
        return "(:(:a a)(:a" + x + "))";
    }

    private static void sixtySigns() {
        Calls c = new Calls("sign 59 is the last").given(0, Integer.MIN_VALUE, 1);
        String first = "((-2147483648.-2147483648).(-2147483648.";
        c.value(longPair("(:9999(:9999 111))"), first + "(9999.(9999.111))))").sign(57, (int) ')').sign(58, (int) ')').sign(59, -1);
        c.value(longPair("(:9999(:9999 1111))"), first + "(9999.(9999.1111))))").sign(58, (int) ')').sign(59, (int) ')');
        c.value(longPair("(:9999(:9999(:1 2)))"), first + "(9999.(9999.(1.2))))").sign(59, (int) ')');
        c.value(longPair("(:9999(:9999(:a 2)))"), first + "(9999.(9999.(-214748").sign(59, (int) '8');
        c.value("(:(:(:a a)(:a a))a)", "(((-2147483648.-2147483648).(-2147483648.-2147483648)).-2147");
    }

    private static void signOfEachKind() {
        Calls c = new Calls("'_', '(' first '.' second ')', 'L', 'K'");
        c.value("_", "_").value("(:_ _)", "(_._)").value("(\\.1)", "L").value("(\\abc._)", "L").value("(^(\\k.k))", "K")
            .value("(:(\\.1)(^(\\k.k)))", "(L.K)");
        c.value("(:1(:2 3))", "(1.(2.3))").value("(:(:1 2)3)", "((1.2).3)").value("(:(:1 2)(:3 4))", "((1.2).(3.4))");
    }

    private static void intsAsText() {
        int[] ints = {0, 1, 9, 10, 99, -1, -9, -10, 1000000000, Integer.MAX_VALUE, Integer.MIN_VALUE, -1000000000};
        Calls c = new Calls("an int in decimal, '-' before if below 0");
        for (int value : ints) {
            c.given(0, value, 1).value("a", Integer.toString(value));
        }
        c.value("0000", "0").value("0012", "12").value("(-0 0)", "0").value("(-0 9999)", "-9999");
    }

    private static void namesOfGlobal() {
        Calls c = new Calls("the GLOBAL name 0 .. 25 (else IllegalArgumentException)");
        for (int i = 0; i < 3; i++) {
            for (int name : FAR) {
                c.globalAt(name, REFUSED);
            }
            if (i == 0) {
                c.given(0, 5, 1).given(25, 6, 2).text("(:a z)", 6).start(3);
            } else {
                c.globalAt(0, 5).globalAt(25, 6).globalAt(1, MISSING).globalAt(24, MISSING).run(3, i == 1 ? 3 : BUSY);
            }
        }
    }

    private static void globalBeforeTheFirstRun() {
        Calls c = new Calls("before the first run: NoSuchElementException");
        for (int name = 0; name < 26; name++) {
            c.globalAt(name, MISSING).given(name, name, name + 1).globalAt(name, MISSING);
        }
        c.text("1", 1).globalAt(3, MISSING).start(1);
        for (int name = 0; name < 26; name++) {
            c.globalAt(name, name);
        }
    }

    private static void globalOfAnotherKind() {
        Calls c = new Calls("if it has no value or another kind of value: NoSuchElementException").given(0, 1, 1);
        c.value("(!a _)", "_").global('a', MISSING).global('b', MISSING).value("(!a(:1 2))", "(1.2)").global('a', MISSING)
            .value("(!a(\\.1))", "L").global('a', MISSING);
        c.value("(!a(^(\\k.k)))", "K").global('a', MISSING).value("(&(!a _)(!a 0))", "0").global('a', 0)
            .value("(!b(/1 0))", "throws.ArithmeticException")
            .global('b', MISSING).global('a', 1);
    }

    private static void globalOfTheLatestRunNow() {
        Calls c = new Calls("has in the latest run now").given(0, 1, 1).text("(&(!a 2)(&(!a 3)(@a 4(!a 5))))", 30).start(10).global('a', 1);
        int[] due = {1, 1, 2, 2, 2, 3, 3, 3, 3, 3};
        for (int step = 0; step < due.length; step++) {
            c.run(1, 1).global('a', due[step]);
        }
        c.state(0, 2).given(0, 9, 1).global('a', 3).clear(30).global('a', 3).text("a", 1).global('a', 3).start(1).global('a', 9).stop(0)
            .global('a', 9);
        c.clear(1).text("(+(!a 6)_)", 10).start(4).run(4, "throws.UnsupportedOperationException").global('a', 6);
    }

    private static void all512Calls() {
        String title = "An object is used for at most 512 calls";
        // Texts, runs of 10 steps and the last call's answer are as due to the end.
        Calls c = new Calls(title).text("(%f(\\.(&(!n(+n 1))(f)))(f))", 27).given(13, 0, 1).start(11);
        for (int calls = 4 + 2; calls < 510; calls++) {
            c.run(10, 10);
        }
        c.state(1, 5040).global('n', (5040 - 4 + 1) / 7);
        Calls texts = new Calls(title);
        for (int i = 0; i < 170; i++) {
            texts.text("(a", 2).text(" b)", 5).clear(5);
        }
        texts.text("1", 1).whole(1);
        Calls runs = new Calls(title).text("(:1 2)", 6);
        for (int i = 0; i < 170; i++) {
            runs.start(3).run(10, 3).sign(1, (int) '1');
        }
        runs.state(2, 1);
    }

    private static void laterCallsEnd() {
        ContinuationCore core = new ContinuationCore();
        for (long signs : Calls.packedAll("(&(^(\\k.(!xk)))(x(^(\\.(x x)))))")) {
            core.text(signs);
        }
        // Their answers are free, but each call still answers or throws what the document lists.
        for (int calls = 0; calls < 20000; calls++) {
            Calls.answerOf(core::start);
            Calls.answerOf(() -> core.run(10));
        }
    }
}
