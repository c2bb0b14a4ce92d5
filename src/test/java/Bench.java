import java.util.function.Consumer;
import java.util.function.LongSupplier;
import java.util.function.Supplier;

/**
 * Makes objects for a test and asks them. What is asked stays below the 512 calls that an object is used for, so nothing
 * here looks at more of an object than it needs.
 */
final class Bench extends Check {
    static final int ONE = 1 << 20;
    static final int LIMIT = 1 << 30;
    static final int NONE = BoxFlow.NONE;

    Bench(String test) {
        super(test);
    }

    // ---- objects

    static long wordOf(String part) {
        long word = 0;
        for (int i = 0; i < part.length(); i++) {
            word = word << 8 | part.charAt(i);
        }
        return word;
    }

    /** The tape in as few calls as can be. */
    void typeAll(BoxFlow flow, String tape) {
        for (int i = 0; i < tape.length(); i += 8) {
            String part = tape.substring(i, Math.min(tape.length(), i + 8));
            due("type " + part, flow.type(wordOf(part), part.length()), true);
        }
    }

    BoxFlow flowOf(String tape) {
        BoxFlow flow = new BoxFlow();
        typeAll(flow, tape);
        flow.compile();
        due("fault() of " + tape, flow.fault(), NONE);
        return flow;
    }

    /** Settled, and each letter begun with two of the ends. */
    BoxFlow flowOf(String tape, int order, int horizon, int coarse, int... ends) {
        BoxFlow flow = flowOf(tape);
        due("settle for " + tape, flow.settle(order, horizon, coarse), true);
        begin(flow, ends);
        return flow;
    }

    void begin(BoxFlow flow, int... ends) {
        for (int i = 0; i < ends.length; i += 2) {
            due("begin(" + i / 2 + ", " + ends[i] + ", " + ends[i + 1] + ")",
                flow.begin(i / 2, ends[i], ends[i + 1]), true);
        }
    }

    // ---- what is due

    void dueState(String when, BoxFlow flow, int... want) {
        for (int what = 0; what < want.length; what++) {
            due(when + ": state(" + what + ")", flow.state(what), want[what]);
        }
    }

    void dueBox(BoxFlow flow, int i, int v, int... want) {
        for (int what = 0; what < want.length; what++) {
            due("box(" + i + ", " + v + ", " + what + ")", flow.box(i, v, what), want[what]);
        }
    }

    void dueNoBox(BoxFlow flow, int i, int v, int what) {
        dueThrow("box(" + i + ", " + v + ", " + what + ")", () -> flow.box(i, v, what), IndexOutOfBoundsException.class);
    }

    void dueCrossing(BoxFlow flow, int i, int... want) {
        for (int what = 0; what < want.length; what++) {
            due("crossing(" + i + ", " + what + ")", flow.crossing(i, what), want[what]);
        }
    }

    void dueNoCrossing(BoxFlow flow, int i, int what) {
        dueThrow("crossing(" + i + ", " + what + ")", () -> flow.crossing(i, what), IndexOutOfBoundsException.class);
    }

    void dueCoefficient(BoxFlow flow, int v, int k, int low, int high) {
        due("coefficient(" + v + ", " + k + ", false)", flow.coefficient(v, k, false), low);
        due("coefficient(" + v + ", " + k + ", true)", flow.coefficient(v, k, true), high);
    }

    void dueNoCoefficient(BoxFlow flow, int v, int k, Class<? extends RuntimeException> want) {
        dueThrow("coefficient(" + v + ", " + k + ", false)", () -> flow.coefficient(v, k, false), want);
        dueThrow("coefficient(" + v + ", " + k + ", true)", () -> flow.coefficient(v, k, true), want);
    }

    /** THE VALUE of x's SIDE over a box: number 1 of x, as OVER 1 changes nothing. */
    void dueValue(String tape, int[] ends, int low, int high) {
        BoxFlow flow = flowOf(tape);
        begin(flow, ends);
        dueCoefficient(flow, 0, 1, low, high);
    }

    void dueValueBeyond(String tape, int... ends) {
        BoxFlow flow = flowOf(tape);
        begin(flow, ends);
        dueNoCoefficient(flow, 0, 1, ArithmeticException.class);
    }

    /** One step is done; what is asked then is the test's. */
    void dueStep(BoxFlow flow) {
        due("step(1)", flow.step(1), 1);
    }

    void dueRefused(BoxFlow flow, int why) {
        dueThrow("step(1)", () -> flow.step(1), ArithmeticException.class);
        due("state(3)", flow.state(3), why);
    }

    void dueGood(String tape, int sides) {
        BoxFlow flow = new BoxFlow();
        typeAll(flow, tape);
        due("compile() of " + tape, answer(() -> flow.compile()), "" + sides);
        due("fault() of " + tape, flow.fault(), NONE);
    }

    void dueFault(String tape, int place) {
        BoxFlow flow = new BoxFlow();
        typeAll(flow, tape);
        dueThrow("compile() of " + tape, () -> flow.compile(), IllegalArgumentException.class);
        due("fault() of " + tape, flow.fault(), place);
    }

    // ---- calls that change nothing

    /** What a call answers, or the name of what it throws. */
    static String answer(LongSupplier call) {
        try {
            return "" + call.getAsLong();
        } catch (RuntimeException e) {
            return e.getClass().getSimpleName();
        }
    }

    /** What can be seen of an object, in some 70 calls: fault, states, three boxes, crossings, coefficients. */
    static String look(BoxFlow flow) {
        StringBuilder seen = new StringBuilder("fault " + flow.fault());
        return seen.append(lookAtRun(flow, 0, 1, 2, 3, 4, 5)).toString();
    }

    static String lookAtRun(BoxFlow flow, int... states) {
        StringBuilder seen = new StringBuilder();
        for (int what : states) {
            seen.append(" state").append(what).append(' ').append(flow.state(what));
        }
        int last = flow.state(2) - 1;
        for (int i : new int[] {0, Math.max(1, last - 1), Math.max(2, last)}) {
            seen.append(" box").append(i);
            for (int v = 0; v <= 3; v++) {
                for (int what = 0; what < (v == 3 ? 2 : 4); what++) {
                    int letter = v;
                    int end = what;
                    seen.append(' ').append(answer(() -> flow.box(i, letter, end)));
                }
            }
        }
        seen.append(" crossing");
        for (int what = 0; what < 3; what++) {
            int asked = what;
            seen.append(' ').append(answer(() -> flow.crossing(flow.state(5) - 1, asked)));
        }
        for (int v = 0; v < 3; v++) {
            for (int k = 0; k <= 9; k += 9) {
                int letter = v;
                int number = k;
                seen.append(' ').append(answer(() -> flow.coefficient(letter, number, false)));
                seen.append(' ').append(answer(() -> flow.coefficient(letter, number, true)));
            }
        }
        return seen.toString();
    }

    /**
     * Two objects are made alike, and some calls are made on the first one alone. All that can be seen then, and all
     * that is seen while both go on, must be alike.
     */
    void dueAsIfNotCalled(String call, Supplier<BoxFlow> maker, Consumer<BoxFlow> calls) {
        BoxFlow called = maker.get();
        BoxFlow other = maker.get();
        calls.accept(called);
        dueAlike("behind " + call, called, other);
        goOnAlike("behind " + call, called, other);
    }

    void dueAlike(String when, BoxFlow flow, BoxFlow other) {
        due(when, look(flow), look(other));
    }

    /** Shows what can't be asked for: the settings, the first boxes of the letters, and what is on the tape. */
    void goOnAlike(String when, BoxFlow flow, BoxFlow other) {
        alike(when + ", step(2)", () -> flow.step(2), () -> other.step(2));
        dueAlike(when + " and step(2)", flow, other);
        alike(when + ", begin", () -> flow.begin(1, 7, 70) ? 1 : 0, () -> other.begin(1, 7, 70) ? 1 : 0);
        alike(when + ", step(200)", () -> flow.step(200), () -> other.step(200));
        dueAlike(when + ", begin and step(200)", flow, other);
        alike(when + ", type", () -> flow.type(';', 1) ? 1 : 0, () -> other.type(';', 1) ? 1 : 0);
        alike(when + ", compile()", () -> flow.compile(), () -> other.compile());
        dueAlike(when + " and compile()", flow, other);
        alike(when + ", step(200) at last", () -> flow.step(200), () -> other.step(200));
        dueAlike(when + ", at last", flow, other);
    }

    private void alike(String call, LongSupplier one, LongSupplier other) {
        due(call, answer(one), answer(other));
    }
}
