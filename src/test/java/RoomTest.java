import com.sun.management.ThreadMXBean;
import java.lang.management.ManagementFactory;

/**
 * Rule 12 of LANGUAGE.md: what the 512 calls of an object make stays small, the library's own objects
 * too. Bytes are counted; each object or array has at least 16 of them.
 */
public final class RoomTest {
    /** At most 62,500 objects, a tenth of the room; the dearest run of calls here makes half of that. */
    private static final long MOST_BYTES = 1000000;
    private static final int MOST_CALLS = 512;
    private static final int NAME_I = 8;
    private static final ThreadMXBean MEMORY = (ThreadMXBean) ManagementFactory.getThreadMXBean();

    public static void main(String[] args) {
        manyTurnsInOneStep();
        turnsOfEachForm();
        turnsOfContinuations();
        dearSteps();
        manyRuns();
        manyTexts();
        refusedCalls();
        Calls.end();
    }

    private static Calls room(String title, Calls.Call work) {
        Calls c = new Calls("room, " + title);
        long before = bytes();
        int calls = work.answer();
        long made = bytes() - before;
        c.due("bytes made: " + made + ", too many", made > MOST_BYTES, false);
        c.due("calls", calls, MOST_CALLS);
        return c;
    }

    private static long bytes() {
        return MEMORY.getCurrentThreadAllocatedBytes();
    }

    /** Gives i a value, starts the text, which must be one without an end, and runs it with all calls that are left. */
    private static void roomOfRun(String text, int i) {
        long[] signs = Calls.packedAll(text);
        ContinuationCore[] made = new ContinuationCore[1];
        Calls c = room(text, () -> {
            ContinuationCore core = new ContinuationCore();
            made[0] = core;
            core.given(NAME_I, i);
            for (long some : signs) {
                core.text(some);
            }
            core.start();
            for (int calls = 2 + signs.length; calls < MOST_CALLS; calls++) {
                core.run(10);
            }
            return MOST_CALLS;
        });
        c.due("steps", made[0].state(1), 10 * (MOST_CALLS - 2 - signs.length));
    }

    private static void manyTurnsInOneStep() {
        roomOfRun("(&(!s(\\k.(!xk)))(&(!p(\\.(P(P(P(P(P(P(^s)))))))))(&(!q(\\.(P(P(P(P(P(P(p)))))))))(&(^s)(?i(&(!i(-i 1))(x(P(q))))(x 0))))))", 86);
    }

    /** Continuations that call one another, the newest i times over; each chain has the forms that stand round it. */
    private static String nested(String form, String innermost, String argument) {
        return "(&(!s(\\k.(!xk)))(&(!p(\\." + form.repeat(5) + innermost + ")))))" + "))(&(^s)(?i(&(!i(-i 1))(x(p)))(x" + argument + ")))))";
    }

    private static void turnsOfEachForm() {
        for (String before : new String[] {"(+1", "(-1", "(*1", "(/1", "(<1", "(=1", "(P", "(!y"}) {
            roomOfRun(nested(before, "(-1(P(^s)))", " 1"), 80);
        }
    }

    private static void turnsOfContinuations() {
        roomOfRun(nested("(^", "(^s)", " x"), 100);
        roomOfRun(nested("(!y", "(^s)", " x"), 100);
    }

    private static void dearSteps() {
        // The values of three parts are kept four times over, and a closure or a continuation is made.
        roomOfRun("(&(^(\\k.(!xk)))(1 2 3(x 0)))", 0);
        roomOfRun("(&(^(\\k.(!xk)))((\\.1)(\\.2)(\\.3)(x(\\.4))))", 0);
        roomOfRun("(%f(\\.(&(+(*1 2)(-3 4))(f)))(f))", 0);
        roomOfRun("(&(^(\\k.(!xk)))(&(!y(^(^x)))(x 0)))", 0);
    }

    private static void manyRuns() {
        long[] signs = Calls.packedAll("(@p(:(:1 2)3)(:(\\.p)p))");
        room("many runs", () -> {
            ContinuationCore core = new ContinuationCore();
            int calls = 0;
            for (long some : signs) {
                core.text(some);
                calls++;
            }
            while (calls < MOST_CALLS - 2) {
                core.start();
                core.run(10);
                calls += 2;
            }
            while (calls < MOST_CALLS) {
                core.sign(59);
                calls++;
            }
            return calls;
        });
    }

    private static void manyTexts() {
        long[] signs = Calls.packedAll("(&(1 2 3 4)" + " ".repeat(101) + "(1 2 3 4");
        room("many texts", () -> {
            ContinuationCore core = new ContinuationCore();
            int calls = 0;
            while (calls < MOST_CALLS) {
                int place = calls % (signs.length + 1);
                int answer = place == signs.length ? core.clear() : core.text(signs[place]);
                calls += answer > 0 ? 1 : MOST_CALLS + 1;
            }
            return calls;
        });
    }

    private static void refusedCalls() {
        room("refused calls", () -> {
            ContinuationCore core = new ContinuationCore();
            core.text('(');
            for (int calls = 1; calls < MOST_CALLS; calls++) {
                refusedCall(core, calls);
            }
            return MOST_CALLS;
        });
    }

    private static void refusedCall(ContinuationCore core, int which) {
        switch (which % 4) {
            case 0:
                Calls.answerOf(() -> core.text(')'));
                break;
            case 1:
                Calls.answerOf(() -> core.run(11));
                break;
            case 2:
                Calls.answerOf(() -> core.global(0));
                break;
            default:
                Calls.answerOf(core::start);
        }
    }
}
