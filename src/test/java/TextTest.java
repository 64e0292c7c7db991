/** Promises 1 to 4: a new object, text, clear and whole. */
public final class TextTest {
    private static final String REFUSED = "throws.IllegalArgumentException";
    private static final String BUSY = "throws.IllegalStateException";

    public static void main(String[] args) {
        newObject();
        bytesOfText();
        begunTexts();
        textsNotBegun();
        limitsOfText();
        refusedTextChangesNothing();
        textWhileRunning();
        clearAnswersLength();
        wholeTexts();
        Calls.end();
    }

    private static void newObject() {
        Calls c = new Calls("promise 1").whole(0).states(0, 0, 0, 0, 0, 0);
        c.number(0, 0).clear(0).start(BUSY).run(1, BUSY).stop(BUSY).sign(0, BUSY);
        for (char name = 'a'; name <= 'z'; name++) {
            c.global(name, "throws.NoSuchElementException");
        }
        c.given(25, 1, 1);
    }

    private static void bytesOfText() {
        Calls c = new Calls("promise 2, bytes");
        c.number(0, 0).number(0x2800_0000_0000_0000L, 1).number(0x002B_0000_2031_0000L, 4).number(0x0000_2000_0000_3200L, 6);
        c.number(0x29, 7).whole(1).start(3).run(10, 3).shows("3").clear(7);
        c.number(0x7F, REFUSED).number(0x1F, REFUSED).number(0x80, REFUSED).number(-1L, REFUSED).number(1, REFUSED);
        c.number(0x3180_0000_0000_0000L, REFUSED).number(0x31FF, REFUSED).number(0x3100_0000_0000_0009L, REFUSED).clear(0);
        c.number(0x7E, REFUSED).number(0x20, REFUSED).number(0xB1_0000_0000L, REFUSED).number(0x31, 1);
    }

    private static void begunTexts() {
        String[] begun = {"(", "((", "( ", "(   a", "(a", "(a ", "(a)", "( a )", "(1", "(_ _", "(+", "(+ ", "(+1", "(+1 ",
            "(+1 2", "(+1 2 ", "(+1 2  )", "(+a", "(+ab", "(+ab)", "(+12 34)", "(+1_)", "(+1a)", "(+a1)", "(1 2 3 4)",
            "(f1 2 3", "(fabc", "(fabc )", "(f 1 2 3   ", "(!", "(!a", "(!ab", "(!a b)", "(!a 1 ", "(@", "(@a", "(@a1 ",
            "(@a12 3)", "(@a1(", "(%", "(%z", "(%za", "(%zaz)", "(\\", "(\\.", "(\\. ", "(\\.a", "(\\a", "(\\ab", "(\\abc",
            "(\\abc.", "(\\abc.d", "(\\a. b )", "(?", "(?1 2", "(?1 2 3", "(?1 2 3)", "(?abc)", "(&", "(&ab", "(&ab)", "(A",
            "(A a", "(A a)", "(Aa)", "(D a)", "(P _)", "(^ ", "(^f)", "(^(\\k.k))", "(:", "(:1(:2_", "(<1 2)", "(=1 2)", "(/1 2)",
            "(-1 2)", "(*1 2)", "0", "0000", "9999", "z", "_", "((a))", "((a)(b)(c)(d))", "((\\x.x)1)"};
        for (String text : begun) {
            new Calls("promise 2, begun").text(text, text.length());
        }
    }

    private static void textsNotBegun() {
        String[] not = {" ", " 1", ")", "1 ", "1)", "1a", "a1", "ab", "a ", "_ ", "__", "_1", "1_", "12345", "00000", "(a))", "(a) ",
            "(a)(", "(a)1", "()", "( )", "( +", "( \\", "( !", "(+)", "(+ )", "(+1)", "(+1 )", "(+1 2 3", "(+1 2a", "(+ab_",
            "(+1 12345", "(+ +", "(+A", "(1 2 3 4 5", "(fabcd", "(fabc(", "(! ", "(!1", "(!A", "(!_", "(!(", "(!)", "(!a)", "(!a )",
            "(!abc", "(@ ", "(@a)", "(@a1)", "(@a1 2 3", "(@)", "(% ", "(%1", "(%a)", "(%ab)", "(%abcd", "(\\ ", "(\\a ", "(\\a a", "(\\aa",
            "(\\aba", "(\\abb", "(\\abcd", "(\\abca", "(\\1", "(\\_", "(\\)", "(\\a)", "(\\.)", "(\\a.)", "(\\a.bc", "(\\a..", "(\\.a.",
            "(\\(", "(?)", "(?1)", "(?1 2)", "(?abcd", "(&)", "(&a)", "(&abc", "(A)", "(Aab", "(A a b", "(D)", "(Dab", "(P)", "(Pab", "(^)",
            "(^ab", "(:)", "(:a)", "(B", "(Z", "(a B", "(a .", "(a +", "(;", "(#", "(.", "(~", "A", "D", "+", "-", "-1", "\\", "!", "?",
            "{", "[", "'", "\"", "(a]", "(<a)", "(=a)", "(=abc", "(/a)", "(*a)", "(-a)", "(+1\t2"};
        for (String text : not) {
            Calls c = new Calls("promise 2, not begun");
            c.due("text " + text, c.put(text), REFUSED);
        }
    }

    private static void limitsOfText() {
        String spaces = " ".repeat(120);
        String twelve = "((((((((((((";
        new Calls("12 open").text(twelve, 12).text("(", REFUSED).text("a", 13).text(")".repeat(12), 25).whole(1);
        new Calls("12 open again").text(twelve + "a)", 14).text("(", 15).text("(", REFUSED).text("b))", 18);
        new Calls("120 signs").text("(a" + spaces.substring(0, 117), 119).text(")", 120).whole(1).number(0, 120)
            .text(")", REFUSED).start(2).run(1, 1);
        new Calls("121 signs").text("(a" + spaces.substring(0, 118), 120).whole(0).number(0, 120).text(")", REFUSED)
            .text(" ", REFUSED).start(BUSY).clear(120);
        new Calls("signs over 120").text("(a" + spaces.substring(0, 114), 116).text("    )", REFUSED).text("   )", 120).whole(1);
        new Calls("number at the end").text("(a" + spaces.substring(0, 117), 119).text("1", 120).text("2", REFUSED).clear(120);
        new Calls("digits over calls").text("12", 2).text("34", 4).text("5", REFUSED).whole(1).start(1).run(1, 1).shows("1234");
        new Calls("digits behind a space").text("(+12", 4).text("34 ", 7).text("5", 8).text("678", 11).text("9", REFUSED)
            .text(")", 12).start(3).run(3, 3).shows("6912");
    }

    private static void refusedTextChangesNothing() {
        Calls c = new Calls("promise 2, refused").text("(+1", 3);
        c.text(" 2 3", REFUSED).text("2)", REFUSED).text("2345", REFUSED).text(" 2)(", REFUSED).number(0x2032_2900_0000_0001L, REFUSED);
        c.whole(0).text("2 3)", 7).whole(1).text(")", REFUSED).whole(1).start(3).run(3, 3).shows("15");
        c.text(" ", REFUSED).sign(0, (int) '1').clear(7);
        new Calls("refused names").text("(\\ab", 4).text("ca", REFUSED).text("b", REFUSED).text("c.(+a(+b c)))", 17).whole(1).start(6);
        new Calls("refused in a digit").text("7", 1).text("8a", REFUSED).text("9", 2).start(1).run(1, 1).shows("79");
    }

    private static void textWhileRunning() {
        Calls c = new Calls("promise 2, running").text("12", 2).start(1);
        c.text("3", BUSY).number(0, BUSY).number(1, BUSY).clear(BUSY).whole(1);
        c.run(1, 1).shows("12").text("3", 3).whole(1).shows("12").start(1).run(1, 1).shows("123");
        c.start(1).stop(0).text("4", 4).clear(4);
        c.text("q", 1).start(1).run(1, BUSY).clear(1).text("8", 1);
    }

    private static void clearAnswersLength() {
        Calls c = new Calls("promise 3").text("(a b)", 5).given(0, 3, 1).clear(5).clear(0).whole(0).start(BUSY);
        c.text("(!b a)", 6).start(2).clear(BUSY).run(1, 1).clear(BUSY).run(1, 1).clear(6);
        c.states(2, 2, 0, 0, 0, 0).shows("3").global('b', 3).start(BUSY).states(2, 2, 0, 0, 0, 0).text("a", 1).given(1, 1, 2);
        c.start(1).run(1, 1).shows("3").global('b', 1);
    }

    private static void wholeTexts() {
        Calls c = new Calls("promise 4");
        String[] signs = {"(", "+", "1", " ", "(", "A", "a", ")", " "};
        int length = 0;
        for (String sign : signs) {
            length++;
            c.text(sign, length).whole(0);
        }
        c.text(")", 10).whole(1).clear(10).whole(0);
        for (String text : new String[] {"0", "9999", "a", "_", "(a)", "(\\.1)"}) {
            c.text(text, text.length()).whole(1).start(text.length() < 5 && text.charAt(0) != '(' ? 1 : 2).whole(1).stop(0).whole(1);
            c.clear(text.length()).whole(0);
        }
    }
}
