import java.util.Random;

/** Random runs of calls, the same on the class and on the Model; the seeds are fixed, so each test run is the same. */
public final class ModelTest {
    private static final int OBJECTS = 5000;
    /** What later calls answer is free. */
    private static final int MOST_CALLS = 512;
    private static final String NOISE = "((((()))))   0129abcxyz___+-*/<=:ADP^?&!@%\\..~";

    private final Random random;
    private final Calls calls;
    private final Model model = new Model();
    private int made;

    private ModelTest(int seed) {
        random = new Random(seed);
        calls = new Calls("seed " + seed);
    }

    public static void main(String[] args) {
        int[] ends = new int[10];
        for (int seed = 0; seed < OBJECTS; seed++) {
            new ModelTest(seed).compare(ends);
        }
        System.out.println("ends of runs: going on " + ends[1] + ", with a value " + ends[2] + ", with a fault NAME .. ROOM "
            + ends[4] + " " + ends[5] + " " + ends[6] + " " + ends[7] + " " + ends[8]);
        Calls.end();
    }

    private void compare(int[] ends) {
        if (random.nextInt(8) != 0) {
            giveInts();
        }
        while (made < MOST_CALLS) {
            if (random.nextInt(12) == 0) {
                wrongCalls();
            }
            if (random.nextInt(4) == 0) {
                int name = random.nextInt(28) - 1;
                int value = random.nextInt(3) == 0 ? random.nextInt() : random.nextInt(4);
                both("given(" + name + ", " + value + ")", () -> calls.core.given(name, value), () -> model.given(name, value));
            }
            both("clear()", calls.core::clear, model::clear);
            putAll(random.nextInt(8) == 0 ? noise() : randomText());
            both("whole()", calls.core::whole, model::whole);
            both("start()", calls.core::start, model::start);
            runOn();
            int state = model.state(0);
            ends[state == ContinuationCore.FAULT ? 3 + model.state(5) : state]++;
            look();
        }
    }

    private void giveInts() {
        for (char name : "anx".toCharArray()) {
            int value = random.nextInt(4);
            both("given " + name, () -> calls.core.given(name - 'a', value), () -> model.given(name - 'a', value));
        }
    }

    private void both(String what, Calls.Call real, Calls.Call due) {
        if (made >= MOST_CALLS) {
            return;
        }
        made++;
        calls.due(what, Calls.answerOf(real), Calls.answerOf(due));
    }

    private void putAll(String text) {
        for (int from = 0; from < text.length();) {
            int to = Math.min(text.length(), from + 1 + random.nextInt(8));
            long signs = Calls.packed(text.substring(from, to)) << (random.nextBoolean() ? 0 : 8 * (8 - (to - from)));
            both("text " + text.substring(from, to), () -> calls.core.text(signs), () -> model.text(signs));
            from = to;
        }
    }

    private void runOn() {
        int most = random.nextInt(50);
        for (int i = 0; i < most && model.state(0) == ContinuationCore.RUNNING; i++) {
            int steps = random.nextInt(3) == 0 ? 1 + random.nextInt(10) : random.nextInt(2) == 0 ? 1 : 10;
            both("run(" + steps + ")", () -> calls.core.run(steps), () -> model.run(steps));
            int what = random.nextInt(6);
            both("state(" + what + ")", () -> calls.core.state(what), () -> model.state(what));
            both("state(4)", () -> calls.core.state(4), () -> model.state(4));
        }
    }

    private void look() {
        if (random.nextInt(4) == 0) {
            both("whole()", calls.core::whole, model::whole);
            both("text", () -> calls.core.text('1'), () -> model.text('1'));
            both("given", () -> calls.core.given(3, 3), () -> model.given(3, 3));
        }
        for (int what = 0; what < 6; what++) {
            int asked = what;
            both("state(" + what + ")", () -> calls.core.state(asked), () -> model.state(asked));
        }
        for (int i = 0; i < 60; i += i < 12 ? 1 : 6) {
            int asked = i;
            both("sign(" + i + ")", () -> calls.core.sign(asked), () -> model.sign(asked));
        }
        for (char name : "afknxz".toCharArray()) {
            both("global " + name, () -> calls.core.global(name - 'a'), () -> model.global(name - 'a'));
        }
        both("stop()", calls.core::stop, model::stop);
    }

    private void wrongCalls() {
        int wrong = random.nextInt(200) - 100;
        both("run", () -> calls.core.run(wrong), () -> model.run(wrong));
        both("state", () -> calls.core.state(wrong), () -> model.state(wrong));
        both("sign", () -> calls.core.sign(wrong), () -> model.sign(wrong));
        both("global", () -> calls.core.global(wrong), () -> model.global(wrong));
        long signs = random.nextLong() & (random.nextBoolean() ? -1L : 0x7F7F7F7F7F7F7F7FL);
        both("text(" + signs + ")", () -> calls.core.text(signs), () -> model.text(signs));
    }

    private String noise() {
        StringBuilder text = new StringBuilder(random.nextBoolean() ? "(" : "");
        int length = random.nextInt(40);
        for (int i = 0; i < length; i++) {
            text.append(NOISE.charAt(random.nextInt(NOISE.length())));
        }
        return text.toString();
    }

    private String randomText() {
        switch (random.nextInt(8)) {
            case 0:
                return "(%f(\\n." + form(4) + ")(f " + form(2) + "))";
            case 1:
                return "(&(^(\\k.(!z k)))(&" + form(3) + "(?" + form(2) + "(z " + form(2) + ")" + form(2) + ")))";
            case 2:
                return "(&(!n " + random.nextInt(70) + ")(%f(\\.(?(=n 0)" + form(2) + "(&" + form(3) + "(&(!n(-n 1))(f)))))(f)))";
            case 3:
                return "(%f(\\n.(?(<n 1)" + form(2) + "(&" + form(2) + "(f(-n 1)))))(f " + random.nextInt(90) + "))";
            case 4:
                return "(@z(\\x.x)(@n" + random.nextInt(30) + "(&" + form(3) + "(&(!n(-n 1))(?(<0 n)(z" + form(2) + ")" + form(2) + "))))))";
            case 5:
                return nestedContinuations();
            default:
                return form(6);
        }
    }

    /** Each continuation calls the one before it, so that one step goes on with the forms of all of them. */
    private String nestedContinuations() {
        boolean ints = random.nextBoolean();
        String[] forms = ints ? new String[] {"(+1", "(P", "(!x", "(=a", "(-n", "(<1"} : new String[] {"(^", "(!x", "(^", "(!a"};
        StringBuilder around = new StringBuilder();
        StringBuilder brackets = new StringBuilder();
        for (int i = random.nextInt(6); i > 0; i--) {
            around.append(forms[random.nextInt(forms.length)]);
            brackets.append(')');
        }
        return "(&(!n" + random.nextInt(30) + ")(&(!s(\\k.(!zk)))(&(!f(\\." + around + (ints ? "(P(^s))" : "(^s)") + brackets
            + "))(&(^s)(?n(&(!n(-n 1))(z(f)))(z" + (ints ? " " + random.nextInt(3) : "z") + "))))))";
    }

    /** Mostly of a fitting kind, so that runs go far before a fault. */
    private String form(int depth) {
        int pick = random.nextInt(10);
        return pick < 5 ? intForm(depth) : pick < 8 ? functionForm(depth) : anyForm(depth);
    }

    private String intForm(int depth) {
        if (random.nextInt(25) == 0) {
            return anyForm(depth);
        }
        if (depth <= 0 || random.nextInt(5) == 0) {
            return random.nextInt(3) == 0 ? " " + random.nextInt(4) : "" + pick("anx");
        }
        int less = depth - 1;
        switch (random.nextInt(8)) {
            case 0:
            case 1:
                return "(" + pick("+-*/<=+-*<") + intForm(less) + space() + intForm(less) + ")";
            case 2:
                return "(?" + intForm(less) + intForm(less) + intForm(less) + ")";
            case 3:
                return "(!" + pick("anx") + intForm(less) + ")";
            case 4:
                return "(^(\\k." + intForm(less) + "))";
            case 5:
                return "(&(^(\\k.(&(!z k)1)))" + intForm(less) + ")";
            case 6:
                return "(" + pick("AD") + "(:" + intForm(less) + intForm(less) + "))";
            default:
                return "(" + space() + functionForm(less) + space() + intForm(less) + ")";
        }
    }

    private String functionForm(int depth) {
        if (random.nextInt(25) == 0) {
            return anyForm(depth);
        }
        if (depth <= 0 || random.nextInt(3) == 0) {
            return random.nextInt(3) == 0 ? "(\\x.x)" : "" + pick("fkz");
        }
        int less = depth - 1;
        switch (random.nextInt(5)) {
            case 0:
                return "(^(\\k." + functionForm(less) + "))";
            case 1:
                return "(!" + pick("fkz") + functionForm(less) + ")";
            case 2:
                return "(^ " + functionForm(less) + ")";
            default:
                return "(\\" + pick("anxk") + "." + form(less) + ")";
        }
    }

    private String anyForm(int depth) {
        if (depth <= 0 || random.nextInt(6) == 0) {
            return random.nextInt(4) == 0 ? "_" : "" + pick("afknxz");
        }
        int less = depth - 1;
        switch (random.nextInt(9)) {
            case 0:
                return "(:" + form(less) + form(less) + space() + ")";
            case 1:
                return "(" + pick("ADP^") + space() + form(less) + ")";
            case 2:
                return "(&" + form(less) + form(less) + ")";
            case 3:
                return "(@" + pick("anx") + intForm(less) + form(less) + ")";
            case 4:
                return "(@" + pick("fkz") + functionForm(less) + form(less) + ")";
            case 5:
                return "(%" + pick("fkz") + functionForm(less) + form(less) + ")";
            case 6:
                return "(\\" + "axn".substring(0, random.nextInt(4)) + "." + space() + form(less) + ")";
            case 7:
                return "(=" + form(less) + form(less) + ")";
            default:
                return "(" + space() + functionForm(less) + arguments(less) + ")";
        }
    }

    private char pick(String signs) {
        return signs.charAt(random.nextInt(signs.length()));
    }

    private String space() {
        return random.nextInt(9) == 0 ? " " : "";
    }

    private String arguments(int depth) {
        int count = random.nextInt(5) == 0 ? random.nextInt(5) : 1;
        StringBuilder all = new StringBuilder();
        for (int i = 0; i < count; i++) {
            all.append(form(depth));
        }
        return all.toString();
    }
}
