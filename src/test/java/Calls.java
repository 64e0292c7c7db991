import java.util.NoSuchElementException;

/** One object under test: calls with the answers that are due, and the wrong ones counted. */
final class Calls {
    private static int wrong = 0;

    final CountedCore core = new CountedCore();
    private final String title;

    Calls(String title) {
        this.title = title;
    }

    interface Call {
        int answer();
    }

    /** The answer in decimal, or throws. with the exception's name. */
    static String answerOf(Call call) {
        try {
            return Integer.toString(call.answer());
        } catch (IllegalStateException | IllegalArgumentException | ArithmeticException
                | UnsupportedOperationException | NoSuchElementException e) {
            return "throws." + e.getClass().getSimpleName();
        }
    }

    static void end() {
        System.out.println(wrong == 0 ? "all answers are as due" : wrong + " answers are not as due");
        if (wrong != 0) {
            System.exit(1);
        }
    }

    Calls due(String what, Object got, Object want) {
        if (!got.toString().equals(want.toString())) {
            wrong++;
            System.out.println(title + ": " + what + " answered " + got + ", due is " + want);
        }
        return this;
    }

    /** Up to eight signs as the number that text takes, low bytes filled. */
    static long packed(String signs) {
        long number = 0;
        for (int i = 0; i < signs.length(); i++) {
            number = number << 8 | signs.charAt(i);
        }
        return number;
    }

    /** A text of any length, eight signs each. */
    static long[] packedAll(String text) {
        long[] all = new long[(text.length() + 7) / 8];
        for (int i = 0; i < all.length; i++) {
            all[i] = packed(text.substring(8 * i, Math.min(text.length(), 8 * i + 8)));
        }
        return all;
    }

    /** Puts a text of any length; the answer of the last call, or of the first that throws. */
    String put(String text) {
        String answer = "nothing put";
        for (long number : packedAll(text)) {
            answer = answerOf(() -> core.text(number));
            if (answer.startsWith("throws.")) {
                break;
            }
        }
        return answer;
    }

    Calls text(String text, Object want) {
        due("text " + text, put(text), want);
        return this;
    }

    Calls number(long signs, Object want) {
        due("text(" + signs + ")", answerOf(() -> core.text(signs)), want);
        return this;
    }

    Calls clear(Object want) {
        due("clear()", answerOf(core::clear), want);
        return this;
    }

    Calls whole(Object want) {
        due("whole()", answerOf(core::whole), want);
        return this;
    }

    Calls given(int name, int value, Object want) {
        due("given(" + name + ", " + value + ")", answerOf(() -> core.given(name, value)), want);
        return this;
    }

    Calls start(Object want) {
        due("start()", answerOf(core::start), want);
        return this;
    }

    Calls run(int steps, Object want) {
        due("run(" + steps + ")", answerOf(() -> core.run(steps)), want);
        return this;
    }

    Calls stop(Object want) {
        due("stop()", answerOf(core::stop), want);
        return this;
    }

    Calls state(int what, Object want) {
        due("state(" + what + ")", answerOf(() -> core.state(what)), want);
        return this;
    }

    /** All six answers of state. */
    Calls states(int... wants) {
        for (int what = 0; what < wants.length; what++) {
            state(what, wants[what]);
        }
        return this;
    }

    Calls sign(int i, Object want) {
        due("sign(" + i + ")", answerOf(() -> core.sign(i)), want);
        return this;
    }

    Calls global(char name, Object want) {
        return globalAt(name - 'a', want);
    }

    Calls globalAt(int name, Object want) {
        due("global(" + name + ")", answerOf(() -> core.global(name)), want);
        return this;
    }

    /** The value as sign shows it, as far as it does. */
    String shown() {
        StringBuilder all = new StringBuilder();
        for (int i = 0; i < 60; i++) {
            int sign = core.sign(i);
            if (sign == ContinuationCore.NONE) {
                break;
            }
            all.append((char) sign);
        }
        return all.toString();
    }

    Calls shows(String want) {
        due("the value", core.state(0) == ContinuationCore.ENDED ? shown() : "none", want);
        return this;
    }

    /** Runs the text that stands, to its end or to a fault, and answers the last answer of run. */
    private String runToEnd() {
        String answer = answerOf(core::start);
        for (int i = 0; i < 400 && core.state(0) == ContinuationCore.RUNNING; i++) {
            answer = answerOf(() -> core.run(10));
        }
        return answer;
    }

    /** A new text is run to its end; its value is due. */
    Calls value(String text, String want) {
        core.clear();
        put(text);
        String answer = runToEnd();
        due(text, core.state(0) == ContinuationCore.ENDED ? shown() : answer, want);
        return this;
    }

    /** A new text is run to its fault, which is due, and so are the steps. */
    Calls fault(String text, int fault, int steps) {
        String[] thrown = {"", "IllegalStateException", "UnsupportedOperationException", "ArithmeticException",
            "IllegalArgumentException", "IllegalArgumentException"};
        core.clear();
        put(text);
        due(text, runToEnd(), "throws." + thrown[fault]);
        due(text + " state", core.state(0), ContinuationCore.FAULT);
        due(text + " fault", core.state(5), fault);
        due(text + " steps", core.state(1), steps);
        due(text + " depth", core.state(4), 0);
        return this;
    }
}
