/** The edges of texts, one test for each sentence of the document that names one: TEXT in the Terms, promises 1 to 4. */
public final class TextEdgesTest {
    private static final String REFUSED = "throws.IllegalArgumentException";
    private static final String BUSY = "throws.IllegalStateException";
    private static final String MISSING = "throws.NoSuchElementException";

    public static void main(String[] args) {
        codesOfSigns();
        digitsOfNumbers();
        lettersOfNames();
        emptyValue();
        partsOfForms();
        namesOfForms();
        namesOfClosures();
        argumentsOfApplications();
        placesOfSpaces();
        manySpaces();
        digitBehindDigit();
        mostSigns();
        mostBrackets();
        begunThoughNoRoomIsLeft();
        aloneIsWhole();
        spacesRoundTheWhole();
        newObject();
        upToEightSigns();
        bytesZeroLeftOut();
        wrongBytes();
        refusedBytesChangeNothing();
        textWhileRunning();
        clearOfAnyLength();
        clearWhileRunning();
        wholeOfEmptyAndBegun();
        Calls.end();
    }

    /** A text is taken in full, or refused in full by its last call. */
    private static void taken(String title, String text, boolean due) {
        Calls c = new Calls(title);
        c.due("text " + text, c.put(text), due ? text.length() : REFUSED);
    }

    private static void whole(String title, String text) {
        Calls c = new Calls(title);
        c.due("text " + text, c.put(text), text.length());
        c.whole(1);
    }

    private static void codesOfSigns() {
        for (int code = 1; code < 256; code++) {
            boolean goesOn = code < 128 && " )(_0123456789abcdefghijklmnopqrstuvwxyz".indexOf(code) >= 0;
            new Calls("Signs are codes 32 .. 126").text("(a", 2).number(code, goesOn ? 3 : REFUSED).clear(goesOn ? 3 : 2);
        }
    }

    private static void digitsOfNumbers() {
        String title = "a number of 1 to 4 digits";
        for (String number : new String[] {"0", "9", "10", "99", "100", "999", "1000", "9999", "0000", "0001"}) {
            whole(title, number);
            taken(title, number + "01234".substring(0, 5 - number.length()), false);
            taken(title, "(f" + number + ")", true);
            taken(title, "(f" + number + " 1234 " + number + ")", true);
            taken(title, "(f 1 " + number + "01234".substring(0, 5 - number.length()), false);
        }
        new Calls(title).text("9", 1).text("99", 3).text("99", REFUSED).text("9", 4).text("9", REFUSED).start(1).run(1, 1).shows("9999");
    }

    private static void lettersOfNames() {
        String title = "a name, one letter a .. z";
        for (char sign = ' '; sign <= '~'; sign++) {
            boolean begins = sign >= 'a' && sign <= 'z' || sign >= '0' && sign <= '9' || sign == '_' || sign == '(';
            taken(title, "" + sign, begins);
            taken(title, "a" + sign, false);
        }
        whole(title, "a");
        whole(title, "z");
    }

    private static void emptyValue() {
        String title = "'_', the empty value";
        whole(title, "_");
        for (String text : new String[] {"__", "_1", "_a", "_(", "_ ", "_)"}) {
            taken(title, text, false);
        }
        taken(title, "(___", true);
        taken(title, "(____)", true);
        taken(title, "(_____", false);
    }

    private static void partsOfForms() {
        String[] heads = {"+", "-", "*", "/", "<", "=", ":", "&", "A", "D", "P", "^", "?", "!a", "@a", "%a", "\\.", "\\a.", "\\abc."};
        int[] counts = {2, 2, 2, 2, 2, 2, 2, 2, 1, 1, 1, 1, 3, 1, 2, 2, 1, 1, 1};
        for (int i = 0; i < heads.length; i++) {
            String begun = "(" + heads[i];
            for (int parts = 0; parts < counts[i]; parts++) {
                taken("too few parts", begun + ")", false);
                taken("too few parts", begun + " )", false);
                begun += parts == 1 ? "(x)" : "x";
                taken("parts", begun, true);
            }
            whole("parts", begun + ")");
            whole("parts", begun + "  )");
            for (String more : new String[] {"x", " x", "1", "_", "("}) {
                taken("too many parts", begun + more, false);
            }
        }
    }

    private static void namesOfForms() {
        String title = "n for a name";
        for (String form : new String[] {"(!", "(@", "(%"}) {
            for (char sign = ' '; sign <= '~'; sign++) {
                taken(title, form + sign, sign >= 'a' && sign <= 'z');
            }
        }
    }

    private static void namesOfClosures() {
        String title = "closure: 0 to 3 different names";
        for (String names : new String[] {"", "a", "z", "ab", "za", "abc", "zxy"}) {
            whole(title, "(\\" + names + ".1)");
            taken(title, "(\\" + names + ")", false);
            taken(title, "(\\" + names + "1", false);
        }
        for (String names : new String[] {"aa", "zz", "aba", "abb", "aab", "abcd", "abca", "abcb", "abcc"}) {
            taken(title, "(\\" + names, false);
        }
        new Calls(title).text("(\\a", 3).text("b", 4).text("a", REFUSED).text("b", REFUSED).text("c", 5).text("d", REFUSED).text(".", 6);
    }

    private static void argumentsOfApplications() {
        String title = "application: the function, and 0 to 3 more";
        for (String parts : new String[] {"f", "f1", "f1 2", "f1 2 3", "1 2 3 4", "____", "(f)(f)(f)(f)", "  f"}) {
            whole(title, "(" + parts + ")");
        }
        for (String text : new String[] {"()", "( )", "(f1 2 3 4", "(fghij", "(f g h i j", "(_____", "((f)(f)(f)(f)(", "(fghi 1"}) {
            taken(title, text, false);
        }
    }

    /** The second row has a '1' below each sign that spaces may stand before. */
    private static void placesOfSpaces() {
        String[][] texts = {
            {"(+a(*b_))", "001101111"}, {"(f)", "011"}, {"(fabc)", "011111"}, {"(!ab)", "00011"}, {"(@ab(c))", "00011111"},
            {"(%abc)", "000111"}, {"(\\.a)", "00011"}, {"(\\abc.(A_))", "00000010111"}, {"(?abc)", "001111"}, {"(&ab)", "00111"},
            {"(^(\\k.k))", "001000111"}, {"((f)1)", "011111"}, {"(:12 a)", "0010111"}, {"a", "0"}, {"1", "0"}, {"_", "0"}, {"12", "00"}};
        for (String[] text : texts) {
            whole("spaces", text[0]);
            for (int i = 0; i < text[0].length(); i++) {
                for (String spaces : new String[] {" ", "     "}) {
                    String spaced = text[0].substring(0, i) + spaces + text[0].substring(i);
                    boolean allowed = text[1].charAt(i) == '1';
                    taken("before an EXPRESSION that is a part of a FORM, and before ')'; nowhere else", spaced, allowed);
                }
            }
        }
    }

    private static void manySpaces() {
        String title = "Any number of spaces";
        for (int count : new int[] {0, 1, 2, 57, 116}) {
            whole(title, "(f" + " ".repeat(count) + "a)");
            whole(title, "(" + " ".repeat(count) + "fa)");
            whole(title, "(fa" + " ".repeat(count) + ")");
        }
        new Calls(title).value("(   +1 2)", "throws.IllegalStateException").value("(+   1    2    )", "3").value("((\\.   7  ) )", "7");
    }

    private static void digitBehindDigit() {
        String title = "A digit behind a digit belongs to the same number";
        taken(title, "(+12)", false);
        taken(title, "(?123)", false);
        taken(title, "(f12345", false);
        taken(title, "(:1234 5", true);
        new Calls(title).value("(+12 3)", "15").value("(+1 23)", "24").value("(+1a)", "throws.IllegalStateException");
        new Calls(title).text("(+1", 3).text("2", 4).text(")", REFUSED).text(" ", 5).text("3", 6).text("4)", 8).start(3).run(3, 3)
            .shows("46");
    }

    private static void mostSigns() {
        String title = "at most 120 signs";
        String begun = "(a" + " ".repeat(117);
        new Calls(title).text(begun, 119).text(")", 120).whole(1).text(")", REFUSED).text(" ", REFUSED).text("a", REFUSED)
            .number(0, 120).clear(120);
        new Calls(title).text(begun, 119).text(" )", REFUSED).text("bc", REFUSED).text("b", 120).whole(0).text(")", REFUSED).whole(0);
        new Calls(title).text(begun.substring(0, 113), 113).text("       )", REFUSED).text("      )", 120).whole(1);
        new Calls(title).text(begun.substring(0, 112), 112).text("       )", 120).whole(1);
        new Calls(title).text(begun.substring(0, 117), 117).text("1234", REFUSED).text("123", 120).text("4", REFUSED);
    }

    private static void mostBrackets() {
        String title = "never more than 12 brackets open";
        taken(title, "(".repeat(12), true);
        taken(title, "(".repeat(13), false);
        whole(title, "(".repeat(12) + "a" + ")".repeat(12));
        taken(title, "(".repeat(12) + "a(", false);
        taken(title, "(".repeat(12) + "a)(", true);
        taken(title, "(".repeat(12) + "a)((", false);
        taken(title, "(".repeat(11) + "(a)(b)(c)(d", true);
        new Calls(title).text("(".repeat(11), 11).text("((", REFUSED).text("(", 12).text("(", REFUSED).text("a)", 14).text("((", REFUSED)
            .text("(b)", 17).text("))", 19).text("((((", REFUSED).text("(((", 22);
        // Closed brackets are not counted.
        whole(title, "((a)(b)(c)(d))");
        whole(title, "(f(g(1)(2)(3))(g(1)(2)(3))(g(1)(2)(3)))");
        String forms = "(A".repeat(12);
        whole(title, forms + "a" + ")".repeat(12));
        taken(title, forms + "(", false);
    }

    private static void begunThoughNoRoomIsLeft() {
        String title = "BEGUN if some text that is one EXPRESSION begins with it";
        new Calls(title).number(0, 0).text("(".repeat(12), 12).text("a" + " ".repeat(107), 120).whole(0).start(BUSY).clear(120);
        for (String text : new String[] {")", " ", "+", "A", ".", "\\", "(a))", "(a)b", "1 2", "(#", "(a#"}) {
            taken(title, text, false);
        }
    }

    private static void aloneIsWhole() {
        String title = "A number, a name or '_' alone is one, too";
        for (String text : new String[] {"7", "0000", "k", "_"}) {
            new Calls(title).text(text, text.length()).whole(1).start(1);
        }
        // More digits may follow a number that is WHOLE.
        new Calls(title).text("1", 1).whole(1).text("2", 2).whole(1).text("34", 4).whole(1).start(1).run(1, 1).shows("1234");
    }

    private static void spacesRoundTheWhole() {
        String title = "Spaces before or behind the whole are not allowed";
        for (String text : new String[] {"1", "a", "_", "(a)"}) {
            taken(title, " " + text, false);
            taken(title, text + " ", false);
            new Calls(title).text(" ", REFUSED).text(text, text.length()).text(" ", REFUSED).whole(1);
        }
    }

    private static void newObject() {
        Calls c = new Calls("The text is empty, no run was made, no GLOBAL has a value");
        c.whole(0).states(0, 0, 0, 0, 0, 0).start(BUSY).run(1, BUSY).stop(BUSY).sign(0, BUSY).clear(0).number(0, 0);
        for (int name = 0; name < 26; name++) {
            c.globalAt(name, MISSING);
        }
        c.text("a", 1).start(1).run(1, BUSY).state(5, 1).given(0, 1, 1);
        // Objects have nothing in common.
        new Calls("another object").whole(0).states(0, 0, 0, 0, 0, 0).given(25, 1, 1).text("z", 1).start(1).run(1, 1).shows("1");
        c.states(3, 1, 0, 0, 0, 1).globalAt(25, MISSING);
    }

    private static void upToEightSigns() {
        String title = "Puts up to eight signs at the end of the text";
        String text = "(+1111(*2222(-3333 4444)))";
        for (int some = 1; some <= 8; some++) {
            Calls c = new Calls(title);
            for (int from = 0; from < text.length(); from += some) {
                int to = Math.min(text.length(), from + some);
                c.text(text.substring(from, to), to);
            }
            c.start(7).run(7, 7).shows("-2467531");
        }
        new Calls(title).number(0, 0).number(0x28_61_62_63_64_20_20_29L, 8).whole(1).number(0, 8);
    }

    private static void bytesZeroLeftOut() {
        String title = "the bytes of the number from the highest to the lowest, bytes 0 left out";
        // Each sign of (-7 2) stands in its own byte, the other bytes 0 in turn.
        for (int gap = 0; gap < 256; gap++) {
            if (Integer.bitCount(gap) == 6) {
                long signs = 0;
                int next = 0;
                for (int place = 0; place < 8; place++) {
                    signs = signs << 8 | ((gap >> place & 1) == 1 ? "(-7 2)".charAt(next++) : 0);
                }
                new Calls(title).number(signs, 6).whole(1).start(3).run(3, 3).shows("5");
            }
        }
        new Calls(title).number(0, 0).number(0x31L << 56, 1).number(0, 1).number(0x32, 2).start(1).run(1, 1).shows("12");
    }

    private static void wrongBytes() {
        String title = "A byte that is neither 0 nor 32 .. 126";
        for (int place = 0; place < 8; place++) {
            for (int code : new int[] {1, 9, 10, 31, 127, 128, 160, 177, 255}) {
                long signs = Calls.packed("(f a b )") & ~(255L << 8 * place) | (long) code << 8 * place;
                new Calls(title).number(signs, REFUSED).whole(0).number((long) code << 8 * place, REFUSED).clear(0);
            }
        }
        new Calls(title).number(-1, REFUSED).number(Long.MIN_VALUE, REFUSED).number(Long.MAX_VALUE, REFUSED).clear(0);
    }

    private static void refusedBytesChangeNothing() {
        Calls c = new Calls("A call that throws changes nothing").text("(:1", 3);
        // All signs but the last would go on.
        c.text(" 2 )1", REFUSED).text("234)", REFUSED).text("(+1 2))", 10);
        c.whole(1).text("1", REFUSED).text(")", REFUSED).whole(1).start(5).run(5, 5).shows("(1.3)");
        Calls names = new Calls("A call that throws changes nothing").text("(\\a", 3).text("bca", REFUSED).text("b.(-ab).", REFUSED);
        names.text("c", 4).text(".(-a b))", 12).whole(1).start(4);
    }

    private static void textWhileRunning() {
        Calls c = new Calls("text: A run is going on").text("12", 2).start(1);
        for (long signs : new long[] {0, '3', 1, 255, -1, ')', ' '}) {
            c.number(signs, BUSY);
        }
        c.whole(1).run(1, 1).shows("12").text("3", 3).start(1).text("4", BUSY).stop(0).text("4", 4).start(1).run(1, 1).shows("1234");
        new Calls("text: no run any more").text("q", 1).start(1).run(1, BUSY).number(0, 1).clear(1).text("(q)", 3);
    }

    private static void clearOfAnyLength() {
        Calls c = new Calls("Answers how long it was").clear(0).clear(0).text("1", 1).clear(1).clear(0).whole(0);
        c.text("(f" + " ".repeat(118), 120).clear(120).clear(0).text("(".repeat(12), 12).clear(12).text("(", 1).text("a)", 3).whole(1);
        c.clear(3).text("1234", 4).clear(4).text("5", 1).start(1).run(1, 1).shows("5");
    }

    private static void clearWhileRunning() {
        Calls c = new Calls("clear: A run is going on").text("(a)", 3).start(2).clear(BUSY).whole(1).stop(0).clear(3);
        c.text("1", 1).start(1).clear(BUSY).run(1, 1).clear(1).states(2, 1, 0, 0, 0, 0).shows("1").start(BUSY);
        c.text("q", 1).start(1).run(1, BUSY).clear(1).states(3, 1, 0, 0, 0, 1);
    }

    private static void wholeOfEmptyAndBegun() {
        Calls c = new Calls("1 if the text is WHOLE, else 0").whole(0);
        String text = "(?(P(\\.a))12(!b_))";
        for (int i = 1; i < text.length(); i++) {
            c.text(text.substring(i - 1, i), i).whole(0);
        }
        c.text(")", text.length()).whole(1).whole(1).text(")", REFUSED).whole(1).start(7).whole(1).run(1, 1).whole(1).stop(1).whole(1);
        c.clear(text.length()).whole(0);
    }
}
