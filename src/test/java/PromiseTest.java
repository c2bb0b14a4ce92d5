/** The promises 1 to 11 one by one: ordinary calls, the edges that the document names, and wrong arguments. */
public final class PromiseTest {
    private static final int ONE = 1 << 20;
    private static final int LIMIT = 1 << 30;
    private static final Check check = new Check("PromiseTest");

    public static void main(String[] args) {
        newObject();
        typeTakesBytes();
        typeKeepsTheTapesLength();
        compileMakesAProblem();
        compileWithAFaultChangesNothing();
        faultTellsThePlace();
        beginSetsALetter();
        settleSetsTheRun();
        stepGoesToTheHorizon();
        stepThrows();
        stepIsRefusedAsFailed();
        stepIsRefusedAsBeyond();
        shiftGetsLessBehindThreeCalmSteps();
        stateAnswers();
        boxAnswers();
        boxesBehindTheFirst400();
        crossingAnswers();
        crossingsPassOverZeros();
        crossingsBehindTheFirst100();
        coefficientRoundsOutward();
        coefficientThrows();
        check.end();
    }

    // ---- helpers

    private static void typeAll(BoxFlow flow, String tape) {
        for (int i = 0; i < tape.length(); i += 8) {
            String part = tape.substring(i, Math.min(tape.length(), i + 8));
            check.due("type " + part, flow.type(wordOf(part), part.length()), true);
        }
    }

    private static long wordOf(String part) {
        long word = 0;
        for (int i = 0; i < part.length(); i++) {
            word = word << 8 | part.charAt(i);
        }
        return word;
    }

    private static BoxFlow flowOf(String tape) {
        BoxFlow flow = new BoxFlow();
        typeAll(flow, tape);
        flow.compile();
        check.due("fault() of " + tape, flow.fault(), BoxFlow.NONE);
        return flow;
    }

    private static BoxFlow flowOf(String tape, int order, int horizon, int coarse, int... ends) {
        BoxFlow flow = flowOf(tape);
        check.due("settle for " + tape, flow.settle(order, horizon, coarse), true);
        for (int i = 0; i < ends.length; i += 2) {
            check.due("begin for " + tape, flow.begin(i / 2, ends[i], ends[i + 1]), true);
        }
        return flow;
    }

    private static void dueState(String when, BoxFlow flow, int... want) {
        for (int what = 0; what < want.length; what++) {
            check.due(when + ": state(" + what + ")", flow.state(what), want[what]);
        }
    }

    private static void dueBox(BoxFlow flow, int i, int v, int... want) {
        for (int what = 0; what < want.length; what++) {
            check.due("box(" + i + ", " + v + ", " + what + ")", flow.box(i, v, what), want[what]);
        }
    }

    private static void dueNoBox(BoxFlow flow, int i, int v, int what) {
        check.dueThrow("box(" + i + ", " + v + ", " + what + ")", () -> flow.box(i, v, what),
            IndexOutOfBoundsException.class);
    }

    private static void dueNoCrossing(BoxFlow flow, int i, int what) {
        check.dueThrow("crossing(" + i + ", " + what + ")", () -> flow.crossing(i, what),
            IndexOutOfBoundsException.class);
    }

    private static void dueCoefficient(BoxFlow flow, int v, int k, int low, int high) {
        check.due("coefficient(" + v + ", " + k + ", false)", flow.coefficient(v, k, false), low);
        check.due("coefficient(" + v + ", " + k + ", true)", flow.coefficient(v, k, true), high);
    }

    private static void dueNoCoefficient(BoxFlow flow, int v, int k, Class<? extends RuntimeException> want) {
        check.dueThrow("coefficient(" + v + ", " + k + ", false)", () -> flow.coefficient(v, k, false), want);
        check.dueThrow("coefficient(" + v + ", " + k + ", true)", () -> flow.coefficient(v, k, true), want);
    }

    private static int faultOf(String tape) {
        BoxFlow flow = new BoxFlow();
        typeAll(flow, tape);
        try {
            flow.compile();
        } catch (IllegalArgumentException e) {
            return flow.fault();
        }
        return flow.fault();
    }

    // ---- promise 1

    private static void newObject() {
        BoxFlow flow = new BoxFlow();
        dueState("new", flow, 0, 4, 0, 0, 0, 0);
        check.due("fault()", flow.fault(), BoxFlow.NONE);
        check.due("begin without a problem", flow.begin(0, 0, 0), false);
        check.dueThrow("step(1)", () -> flow.step(1), IllegalStateException.class);
        check.dueThrow("step(0)", () -> flow.step(0), IllegalStateException.class);
        dueNoBox(flow, 0, 0, 0);
        dueNoBox(flow, 0, 3, 0);
        dueNoCrossing(flow, 0, 0);
        dueNoCoefficient(flow, 0, 0, IndexOutOfBoundsException.class);
        check.due("settle without a problem", flow.settle(8, 160, 7), true);
        dueState("settled", flow, 0, 7, 0, 0, 0, 0);
        BoxFlow other = flowOf("x=1;");
        check.due("step(200): the first HORIZON and COARSENESS", other.step(200), 16);
        dueState("the first HORIZON", other, ONE, 4, 17, 0, 16, 0);
    }

    // ---- promise 2

    private static void typeTakesBytes() {
        BoxFlow flow = new BoxFlow();
        check.due("type with n 0", flow.type(0x78L, 0), false);
        check.due("type with n 9", flow.type(0x7878787878787878L, 9), false);
        check.due("type with n -1", flow.type(0x78L, -1), false);
        check.due("type of 32", flow.type(0x7820L, 2), false);
        check.due("type of 127", flow.type(0x7f78L, 2), false);
        check.due("type of 0", flow.type(0x78L, 2), false);
        check.due("type of 255", flow.type(0xffL, 1), false);
        check.due("type of a byte above 127", flow.type(0xf8L, 1), false);
        check.due("type of a word below 0", flow.type(0x80783d313b783d31L, 8), false);
        check.due("type: only the lowest bytes count", flow.type(0xff00ff0000783d31L, 3), true);
        check.due("type of 59", flow.type(0x3bL, 1), true);
        check.due("compile(): highest first, nothing of what was refused", flow.compile(), 1);
        check.due("type of 33 and 126", flow.type(0x217eL, 2), true);
        check.dueThrow("compile()", () -> flow.compile(), IllegalArgumentException.class);
        check.due("fault()", flow.fault(), 0);
    }

    private static void typeKeepsTheTapesLength() {
        BoxFlow flow = new BoxFlow();
        StringBuilder tape = new StringBuilder("x=1");
        for (int i = 0; i < 10; i++) {
            tape.append("+001/01x^1y^1z^1y");
        }
        tape.append(";y=1;z=1;g=1");
        while (tape.length() < 239) {
            tape.append(tape.length() % 2 == 0 ? "1" : "+");
        }
        typeAll(flow, tape.substring(0, 232));
        check.due("type to 239", flow.type(wordOf(tape.substring(232)), 7), true);
        check.due("type to 241", flow.type(0x783bL, 2), false);
        check.due("type to 247", flow.type(0x7878787878787878L, 8), false);
        check.due("type to 240", flow.type(0x3bL, 1), true);
        check.due("type to 241", flow.type(0x3bL, 1), false);
        check.dueThrow("compile()", () -> flow.compile(), IllegalArgumentException.class);
        check.due("fault()", flow.fault(), tape.toString().lastIndexOf("g=") + 2 + 24 - 1);
        check.due("type on the empty tape", flow.type(0x78787878L, 4), true);
    }

    // ---- promise 3

    private static void compileMakesAProblem() {
        BoxFlow flow = flowOf("x=1;", 2, 3 * ONE, 1, 5, 9);
        flow.step(2);
        typeAll(flow, "x=y;y=-x;z=0;g=z-1;");
        check.due("compile()", flow.compile(), 3);
        dueState("compiled", flow, 0, 1, 1, 0, 0, 0);
        dueBox(flow, 0, 0, 0, 0, 0, 0);
        dueBox(flow, 0, 2, 0, 0, 0, 0);
        dueBox(flow, 0, 3, 0, -1);
        check.due("step(200): ORDER, HORIZON and COARSENESS stay", flow.step(200), 6);
        typeAll(flow, "x=1;y=1;");
        check.due("compile()", flow.compile(), 2);
        typeAll(flow, "x=1;g=1;");
        check.due("compile()", flow.compile(), 1);
        dueNoBox(flow, 0, 1, 0);
        dueBox(flow, 0, 3, 0, 1);
        typeAll(flow, "x=1;");
        check.due("compile()", flow.compile(), 1);
        dueBox(flow, 0, 3, 0, 0);
    }

    private static void compileWithAFaultChangesNothing() {
        BoxFlow flow = flowOf("x=1;g=x-1/2;", 4, ONE, 2, 0, 0);
        flow.step(3);
        typeAll(flow, "x=1;y=2;g=7");
        check.dueThrow("compile()", () -> flow.compile(), IllegalArgumentException.class);
        check.due("fault()", flow.fault(), 11);
        dueState("as before", flow, 3 * ONE / 4, 2, 4, 0, 3, 1);
        dueBox(flow, 3, 0, 3 * ONE / 4, 3 * ONE / 4);
        dueBox(flow, 3, 3, 3 * ONE / 4, 1);
        dueNoBox(flow, 3, 1, 0);
        check.dueThrow("compile(): the tape is empty", () -> flow.compile(), IllegalArgumentException.class);
        check.due("fault()", flow.fault(), 0);
        check.due("step(5): the run goes on", flow.step(5), 1);
        dueBox(flow, 4, 0, ONE, ONE);
        typeAll(flow, "x=2;");
        check.due("compile()", flow.compile(), 1);
        check.due("fault()", flow.fault(), BoxFlow.NONE);
    }

    // ---- promise 4

    private static void faultTellsThePlace() {
        String seven = "xxxxxxx";
        String[] tapes = {
            "", "x", "x=", "x=1", "x=1;y", "x=1;g", "x=1;;", "x=1;x=1;", "y=1;", "g=1;", "x-1;", "X=1;",
            "x=1;y=1;y=1;", "x=1;y=1;z=1;z=1;", "x=1;g=1;g=1;", "x=1;g=1;x", "x=1;z=1;", "x=+1;", "x=1+-1;", "x=1++1;",
            "x=1-;", "x=x2;", "x=2x3;", "x=1234;", "x=1/;", "x=1/x;", "x=/2;", "x=1/2/3;", "x=1/100;", "x=1^2;",
            "x=x^;", "x=x^x;", "x=x^22;", "x=x^1^1;", "x=(x);", "x=x*x;", "x=x.",
            "x=1/0;", "x=1/00;", "x=1/0", "x=1/000;", "x=1/0?", "x=1/01;", "x=0;", "x=0/7;", "x=000x;",
            "x=x^4x^2;", "x=x^4x^3;", "x=x^4xxx;", "x=" + seven + ";", "x=x^3x^3x^4;", "x=x^4x^2x^9;", "x=yyyyyyy;",
            "x=xxxxxx+xxxxxx;g=x^3x^3-" + seven + ";",
            "x=y;", "x=z;y=1;", "x=z+y;", "x=1;g=z+y;", "x=y;y=x;", "x=z;y=y;z=x;", "x=y;g=1/0;", "x=y;y=z;z=", "x=y",
            "x=-1-1-1-1-1-1-1-1-1-1-1-1;", "x=-1-1-1-1-1-1-1-1-1-1-1-1-1;", "x=1+1+1+1+1+1+1+1+1+1+1+1+;",
            "x=1;y=1+1+1+1+1+1+1+1+1+1+1+1;z=1+1;g=1+1+1+1+1+1+1+1+1+1+1+1+1;",
        };
        int[] places = {
            0, 1, 2, 3, 5, 5, 4, 4, 0, 0, 1, 0,
            8, 12, 8, 8, 4, 2, 4, 4,
            4, 3, 4, 5, 4, 4, 2, 5, 6, 3,
            4, 4, 5, 5, 2, 3, 3,
            4, 4, 4, 4, 4, -1, -1, -1, -1,
            -1, 7, 7, 8, 8, 8, 8,
            31,
            2, 2, 2, 6, -1, -1, 8, 10, 3,
            -1, 26, 25,
            61,
        };
        check.due("as many tapes as places", tapes.length, places.length);
        for (int i = 0; i < tapes.length; i++) {
            check.due("fault() of " + tapes[i], faultOf(tapes[i]), places[i]);
        }
    }

    // ---- promise 5

    private static void beginSetsALetter() {
        BoxFlow flow = flowOf("x=1;y=2;g=y-1;", 4, ONE, 3);
        flow.step(2);
        check.due("begin of y", flow.begin(1, 3 * ONE, 3 * ONE + 7), true);
        dueState("begun", flow, 0, 3, 1, 0, 0, 0);
        dueBox(flow, 0, 0, 0, 0, 0, 0);
        dueBox(flow, 0, 1, 3 * ONE, 3 * ONE + 7, 3 * ONE, 3 * ONE + 7);
        dueBox(flow, 0, 3, 0, 1);
        check.due("begin at the LIMIT", flow.begin(0, -LIMIT, LIMIT), true);
        dueBox(flow, 0, 0, -LIMIT, LIMIT, -LIMIT, LIMIT);
        dueBox(flow, 0, 1, 3 * ONE, 3 * ONE + 7);
        check.due("begin of x", flow.begin(0, -5, -5), true);
        flow.step(2);
        check.due("begin of no letter", flow.begin(2, 0, 0), false);
        check.due("begin of no letter", flow.begin(3, 0, 0), false);
        check.due("begin of no letter", flow.begin(-1, 0, 0), false);
        check.due("begin with low above high", flow.begin(0, 1, 0), false);
        check.due("begin below the LIMIT", flow.begin(0, -LIMIT - 1, 0), false);
        check.due("begin above the LIMIT", flow.begin(0, 0, LIMIT + 1), false);
        check.due("begin far beyond", flow.begin(0, Integer.MIN_VALUE, Integer.MAX_VALUE), false);
        dueState("the run goes on", flow, ONE / 4, 3, 3, 0, 2, 0);
        dueBox(flow, 0, 0, -5, -5);
    }

    // ---- promise 6

    private static void settleSetsTheRun() {
        BoxFlow flow = flowOf("x=1;", 4, ONE, 3, 7, 9);
        flow.step(2);
        int[][] wrong = {{0, 16, 0}, {9, 16, 0}, {-1, 16, 0}, {1, 8, 0}, {1, 15, 0}, {1, -16, 0}, {1, (1 << 26) + 16, 0},
            {1, 16, -1}, {1, 16, 11}, {1, Integer.MIN_VALUE, 0}};
        for (int[] w : wrong) {
            check.due("settle(" + w[0] + ", " + w[1] + ", " + w[2] + ")", flow.settle(w[0], w[1], w[2]), false);
        }
        dueState("the run goes on", flow, ONE / 4, 3, 3, 0, 2, 0);
        check.due("settle(1, 0, 0)", flow.settle(1, 0, 0), true);
        dueState("anew", flow, 0, 0, 1, 0, 0, 0);
        dueBox(flow, 0, 0, 7, 9, 7, 9);
        check.due("step(1) with HORIZON 0", flow.step(1), 0);
        check.due("settle(8, 2^26, 10)", flow.settle(8, 1 << 26, 10), true);
        dueState("anew", flow, 0, 10, 1, 0, 0, 0);
        check.due("step(1)", flow.step(1), 1);
        dueState("stepped", flow, 1024, 10, 2, 0, 1, 0);
        check.due("settle(1, 2^26, 0)", flow.settle(1, 1 << 26, 0), true);
        check.due("step(200)", flow.step(200), 64);
        dueState("at the farthest HORIZON", flow, 1 << 26, 0, 65, 0, 64, 0);
        orderCounts();
    }

    /** x=x from 1 with one step of 1/2: the rest is of the size of the number behind the last one, and sinks. */
    private static void orderCounts() {
        long last = Long.MAX_VALUE;
        for (int order = 1; order <= 6; order++) {
            BoxFlow flow = flowOf("x=x;", order, ONE / 2, 1, ONE, ONE);
            flow.step(1);
            long width = flow.box(1, 0, 1) - flow.box(1, 0, 0);
            check.due("a greater ORDER makes a lesser box: " + width + " < " + last, width < last, true);
            boolean holds = flow.box(1, 0, 0) <= 1728810 && flow.box(1, 0, 1) >= 1728811;
            check.due("the box of ORDER " + order + " holds the root of e", holds, true);
            last = width;
        }
    }

    // ---- promise 7

    private static void stepGoesToTheHorizon() {
        BoxFlow flow = flowOf("x=1;", 3, 16000, 0, 100, 200);
        check.due("step(2)", flow.step(2), 2);
        dueState("two steps", flow, 8192 + 4096, 8, 3, 0, 2, 0);
        check.due("step(200)", flow.step(200), 4);
        dueState("at the HORIZON", flow, 16000, 13, 7, 0, 6, 0);
        dueBox(flow, 6, 0, 16100, 16200, 15972, 16200);
        check.due("step(1) at the HORIZON", flow.step(1), 0);
        dueState("still there", flow, 16000, 13, 7, 0, 6, 0);
        BoxFlow fine = flowOf("x=-1/2;", 1, 16, 0);
        check.due("step(200)", fine.step(200), 1);
        dueState("the finest step", fine, 16, 16, 2, 0, 1, 0);
        dueBox(fine, 1, 0, -8, -8, -8, 0);
    }

    private static void stepThrows() {
        BoxFlow flow = flowOf("x=1;", 4, ONE, 10);
        for (int n : new int[] {0, -1, 201, Integer.MIN_VALUE, Integer.MAX_VALUE}) {
            check.dueThrow("step(" + n + ")", () -> flow.step(n), IllegalArgumentException.class);
        }
        dueState("nothing done", flow, 0, 10, 1, 0, 0, 0);
        check.due("step(200)", flow.step(200), 200);
        check.due("step(1)", flow.step(1), 1);
        flow.settle(4, 0, 0);
        check.dueThrow("step(201) at the HORIZON", () -> flow.step(201), IllegalArgumentException.class);
    }

    private static void stepIsRefusedAsFailed() {
        StringBuilder tape = new StringBuilder("x=999x^4x^2");
        for (int i = 1; i < 12; i++) {
            tape.append(i % 2 == 0 ? "+" : "-").append("999x^4x^2");
        }
        BoxFlow flow = flowOf(tape.append(";").toString(), 1, 16, 0, ONE, ONE);
        for (int time = 1; time <= 2; time++) {
            check.dueThrow("step(1)", () -> flow.step(1), ArithmeticException.class);
            dueState("FAILED", flow, 0, 0, 1, 1, time, 0);
        }
        dueBox(flow, 0, 0, ONE, ONE, ONE, ONE);
        check.due("begin", flow.begin(0, 0, 0), true);
        dueState("anew", flow, 0, 0, 1, 0, 0, 0);
        check.due("step(1)", flow.step(1), 1);
        dueState("not REFUSED", flow, 16, 16, 2, 0, 1, 0);
    }

    private static void stepIsRefusedAsBeyond() {
        BoxFlow flow = flowOf("x=999;", 4, 1 << 22, 1, 0, 0);
        check.dueThrow("step(200)", () -> flow.step(200), ArithmeticException.class);
        dueState("BEYOND behind one step", flow, ONE / 2, 1, 2, 2, 2, 0);
        dueBox(flow, 1, 0, 999 * (ONE / 2), 999 * (ONE / 2), 0, 999 * (ONE / 2));
        flow.settle(4, 48, 0);
        flow.begin(0, LIMIT, LIMIT);
        check.dueThrow("step(1)", () -> flow.step(1), ArithmeticException.class);
        dueState("the SHIFT has not grown", flow, 0, 0, 1, 2, 1, 0);
        // The first widening of this one comes to the LIMIT itself, or one above it.
        BoxFlow edge = flowOf("x=0;", 1, 16, 0, LIMIT - 2, LIMIT - 2);
        check.due("step(1): widened to the LIMIT less 1", edge.step(1), 1);
        edge.begin(0, LIMIT - 1, LIMIT - 1);
        check.due("step(1): widened to the LIMIT", edge.step(1), 1);
        edge.begin(0, LIMIT, LIMIT);
        check.dueThrow("step(1): widened beyond it", () -> edge.step(1), ArithmeticException.class);
        edge.begin(0, -LIMIT + 1, -LIMIT + 1);
        check.due("step(1): widened to the LIMIT below 0", edge.step(1), 1);
        edge.begin(0, -LIMIT, -LIMIT);
        check.dueThrow("step(1): widened beyond it below 0", () -> edge.step(1), ArithmeticException.class);
    }

    /** Told by the tries: a step with one try has not had the SHIFT grow, as long as the HORIZON is far. */
    private static void shiftGetsLessBehindThreeCalmSteps() {
        BoxFlow flow = flowOf("x=8-8x;", 4, 1 << 26, 2, ONE, ONE);
        int inARow = 0;
        int grown = 0;
        int lessened = 0;
        for (int i = 0; i < 20; i++) {
            int shift = flow.state(1);
            int tries = flow.state(4);
            flow.step(1);
            int more = flow.state(4) - tries - 1;
            int due = shift + more;
            inARow = more > 0 ? 0 : inARow + 1;
            grown += more;
            if (inARow == 3) {
                inARow = 0;
                lessened += due > 2 ? 1 : 0;
                due -= due > 2 ? 1 : 0;
            }
            check.due("state(1) behind step " + i, flow.state(1), due);
        }
        check.due("the SHIFT has grown and got less", grown > 2 && lessened > 2, true);
    }

    // ---- promise 8

    private static void stateAnswers() {
        BoxFlow flow = flowOf("x=1;g=x-1/2;", 4, ONE, 2, 0, 0);
        for (int what : new int[] {-1, 6, 7, Integer.MIN_VALUE, Integer.MAX_VALUE}) {
            check.due("state(" + what + ")", flow.state(what), BoxFlow.NONE);
        }
        dueState("begun", flow, 0, 2, 1, 0, 0, 0);
        flow.step(3);
        dueState("three steps", flow, 3 * ONE / 4, 2, 4, 0, 3, 1);
    }

    // ---- promise 9

    private static void boxAnswers() {
        BoxFlow flow = flowOf("x=1;y=-1;g=x+y-1;", 4, ONE, 2, 10, 20, -7, -7);
        check.due("step(2)", flow.step(2), 2);
        dueBox(flow, 0, 0, 10, 20, 10, 20);
        dueBox(flow, 0, 1, -7, -7, -7, -7);
        dueBox(flow, 0, 3, 0, -1);
        dueBox(flow, 1, 0, ONE / 4 + 10, ONE / 4 + 20, 10, ONE / 4 + 20);
        dueBox(flow, 1, 1, -ONE / 4 - 7, -ONE / 4 - 7, -ONE / 4 - 7, -7);
        dueBox(flow, 2, 3, ONE / 2, -1);
        int[][] wrong = {{-1, 0, 0}, {3, 0, 0}, {3, 3, 0}, {0, 2, 0}, {0, -1, 0}, {0, 4, 0}, {0, 0, -1}, {0, 0, 4},
            {0, 3, 2}, {0, 3, 3}, {0, 3, -1}, {Integer.MIN_VALUE, 0, 0}, {Integer.MAX_VALUE, 0, 0},
            {0, Integer.MAX_VALUE, 0}, {0, 0, Integer.MAX_VALUE}};
        for (int[] w : wrong) {
            dueNoBox(flow, w[0], w[1], w[2]);
        }
        flow.begin(0, 0, 0);
        dueNoBox(flow, 1, 0, 0);
        BoxFlow three = flowOf("x=1;y=1;z=1;", 1, ONE, 2, 0, 0, 0, 0, 3, 4);
        three.step(1);
        dueBox(three, 1, 2, ONE / 4 + 3, ONE / 4 + 4, 3, ONE / 4 + 4);
        dueBox(three, 1, 3, ONE / 4, 0);
    }

    private static void boxesBehindTheFirst400() {
        BoxFlow flow = flowOf("x=1;g=x-1/3;", 1, ONE, 10, 0, 0);
        check.due("step(200)", flow.step(200), 200);
        check.due("step(200)", flow.step(199), 199);
        dueBox(flow, 399, 0, 399 * 1024, 399 * 1024, 398 * 1024, 399 * 1024);
        dueBox(flow, 399, 3, 399 * 1024, 1);
        check.due("step(200)", flow.step(200), 200);
        dueState("600 boxes", flow, 599 * 1024, 10, 600, 0, 599, 1);
        dueBox(flow, 399, 0, 399 * 1024, 399 * 1024, 398 * 1024, 399 * 1024);
        dueNoBox(flow, 400, 0, 0);
        dueNoBox(flow, 599, 3, 0);
        dueCoefficient(flow, 0, 0, 599 * 1024, 599 * 1024);
    }

    // ---- promise 10

    private static void crossingAnswers() {
        BoxFlow flow = flowOf("x=1;g=-x^2+x-2/9;", 4, ONE, 4, 0, 0);
        check.due("step(200)", flow.step(200), 16);
        check.due("state(5)", flow.state(5), 2);
        int[][] due = {{5, 6, 1}, {10, 11, -1}};
        for (int i = 0; i < due.length; i++) {
            for (int what = 0; what < 3; what++) {
                check.due("crossing(" + i + ", " + what + ")", flow.crossing(i, what), due[i][what]);
            }
        }
        int[][] wrong = {{-1, 0}, {2, 0}, {0, -1}, {0, 3}, {Integer.MIN_VALUE, 0}, {Integer.MAX_VALUE, 2},
            {0, Integer.MAX_VALUE}};
        for (int[] w : wrong) {
            dueNoCrossing(flow, w[0], w[1]);
        }
        flow.begin(0, 0, 0);
        check.due("state(5) anew", flow.state(5), 0);
        dueNoCrossing(flow, 0, 0);
    }

    private static void crossingsPassOverZeros() {
        // From 0 by eighths: 0 at 1/2 and only there; with a wide box also around it.
        BoxFlow flow = flowOf("x=1;g=x-1/2;", 4, ONE, 3, 0, 0);
        flow.step(8);
        check.due("crossing(0, 0)", flow.crossing(0, 0), 3);
        check.due("crossing(0, 1)", flow.crossing(0, 1), 5);
        check.due("crossing(0, 2)", flow.crossing(0, 2), 1);
        dueBox(flow, 4, 3, ONE / 2, 0);
        flow.begin(0, 0, ONE / 4);
        flow.step(8);
        check.due("crossing(0, 0)", flow.crossing(0, 0), 1);
        check.due("crossing(0, 1)", flow.crossing(0, 1), 5);
        // Touching 0 and turning back is none.
        BoxFlow back = flowOf("x=1;g=x^2-x+1/4;", 4, ONE, 3, 0, 0);
        back.step(8);
        dueBox(back, 4, 3, ONE / 2, 0);
        dueBox(back, 5, 3, 5 * ONE / 8, 1);
        check.due("state(5)", back.state(5), 0);
        signsAtTheLimit();
    }

    private static void signsAtTheLimit() {
        String[] tapes = {"x=0;g=x;", "x=0;g=-x;", "x=0;g=x^2;", "x=0;g=x+x;", "x=0;g=x+x-x;", "x=0;g=x-x+x;", "x=0;g=1;",
            "x=0;g=0;"};
        int[] signs = {1, -1, 0, 0, 0, 1, 1, 0};
        for (int i = 0; i < tapes.length; i++) {
            BoxFlow flow = flowOf(tapes[i], 4, ONE, 4, LIMIT, LIMIT);
            check.due("box(0, 3, 1) of " + tapes[i], flow.box(0, 3, 1), signs[i]);
        }
        BoxFlow flow = flowOf("x=0;g=x;", 4, ONE, 4, 0, 5);
        dueBox(flow, 0, 3, 0, 0);
        flow.begin(0, 1, 5);
        dueBox(flow, 0, 3, 0, 1);
        flow.begin(0, -5, 0);
        dueBox(flow, 0, 3, 0, 0);
        flow.begin(0, -5, -1);
        dueBox(flow, 0, 3, 0, -1);
    }

    /** y is near to a Chebyshev polynomial of x, z swings with one of y, and g has six zeros on each swing. */
    private static void crossingsBehindTheFirst100() {
        String tape = "x=1/16;y=432x^4x^2-540x^4+162x^2-27/4;z=1/64y^3-14/5y;g=1/80z^4z^2-17/96z^4+21/62z^2-1/30;";
        int[] ends = {-1013568, 3894113, 1936689};
        BoxFlow flow = flowOf(tape, 3, 1 << 25, 5);
        Model model = new Model();
        model.tape.append(tape);
        model.compile();
        model.settle(3, 1 << 25, 5);
        for (int v = 0; v < 3; v++) {
            flow.begin(v, ends[v], ends[v]);
            model.begin(v, ends[v], ends[v]);
        }
        for (int i = 0; i < 5; i++) {
            check.due("step(200)", flow.step(200), model.step(200));
        }
        check.due("step(35)", flow.step(35), model.step(35));
        check.due("more than 100 crossings", flow.state(5) > 100, true);
        for (int what = 0; what < 6; what++) {
            check.due("state(" + what + ")", flow.state(what), model.state(what));
        }
        for (int i = 0; i < 100; i++) {
            for (int what = 0; what < 3; what++) {
                check.due("crossing(" + i + ", " + what + ")", flow.crossing(i, what), model.crossing(i, what));
            }
        }
        check.due("crossing(99, 0) lies behind the boxes that are kept", flow.crossing(99, 0) > 400, true);
        dueNoCrossing(flow, 100, 0);
        dueNoCrossing(flow, flow.state(5) - 1, 2);
    }

    // ---- promise 11

    private static void coefficientRoundsOutward() {
        BoxFlow flow = flowOf("x=x;", 4, ONE, 4, -3, 5);
        dueCoefficient(flow, 0, 0, -3, 5);
        dueCoefficient(flow, 0, 1, -3, 5);
        dueCoefficient(flow, 0, 2, -2, 3);
        dueCoefficient(flow, 0, 3, -1, 1);
        dueCoefficient(flow, 0, 9, -1, 1);
        dueCoefficient(flowOf("x=1/3;"), 0, 1, 349525, 349526);
        dueCoefficient(flowOf("x=-1/3;"), 0, 1, -349526, -349525);
        dueCoefficient(flowOf("x=-999/7;"), 0, 1, -149646775, -149646774);
        dueCoefficient(flowOf("x=-1/2+1/3-1/4;"), 0, 1, -524288 + 349525 - 262144, -524288 + 349526 - 262144);
        BoxFlow two = flowOf("x=xy;y=x-y;", 4, ONE, 4, -3, 5, 7, 9);
        dueCoefficient(two, 0, 1, -1, 1);
        dueCoefficient(two, 1, 1, -12, -2);
        // Number 1 of x - y is (-1 .. 1) - (-12 .. -2).
        dueCoefficient(two, 1, 2, 0, 7);
        // The letters of x come first, whatever the order on the tape: 1 unit and a half round before the 4 comes.
        for (String term : new String[] {"xyz", "zyx", "yzx"}) {
            BoxFlow three = flowOf("x=" + term + ";y=0;z=0;", 4, ONE, 4, 1, 1, ONE / 2, ONE / 2, 4 * ONE, 4 * ONE);
            dueCoefficient(three, 0, 1, 0, 4);
        }
        BoxFlow squared = flowOf("x=x^2;", 4, ONE, 4, ONE, ONE);
        for (int k = 0; k <= 9; k++) {
            dueCoefficient(squared, 0, k, ONE, ONE);
        }
        // A square is the product of an interval with itself, and is not known to be above 0.
        dueCoefficient(flowOf("x=x^2;", 4, ONE, 4, -ONE, ONE), 0, 1, -ONE, ONE);
        BoxFlow moved = flowOf("x=1;", 4, ONE, 4, 0, 0);
        moved.step(3);
        dueCoefficient(moved, 0, 0, 3 * ONE / 16, 3 * ONE / 16);
    }

    private static void coefficientThrows() {
        Class<IndexOutOfBoundsException> none = IndexOutOfBoundsException.class;
        BoxFlow flow = flowOf("x=1;y=y^2;", 4, ONE, 4, 0, 0, 40 * ONE, 40 * ONE);
        int[][] wrong = {{-1, 0}, {2, 0}, {3, 0}, {0, -1}, {0, 10}, {Integer.MIN_VALUE, 0}, {0, Integer.MIN_VALUE},
            {Integer.MAX_VALUE, Integer.MAX_VALUE}, {2, 9}};
        for (int[] w : wrong) {
            dueNoCoefficient(flow, w[0], w[1], none);
        }
        dueCoefficient(flow, 0, 0, 0, 0);
        // y's number 1 is 1600, and counts for x too.
        dueNoCoefficient(flow, 0, 1, ArithmeticException.class);
        dueNoCoefficient(flow, 1, 9, ArithmeticException.class);
        flow.begin(1, 32 * ONE, 32 * ONE);
        dueCoefficient(flow, 1, 1, LIMIT, LIMIT);
        dueNoCoefficient(flow, 0, 2, ArithmeticException.class);
        flow.begin(1, -32 * ONE, 32 * ONE);
        dueCoefficient(flow, 1, 1, -LIMIT, LIMIT);
        flow.begin(1, -32 * ONE, 32 * ONE + 1);
        dueNoCoefficient(flow, 1, 1, ArithmeticException.class);
        // What is beyond on the way counts too.
        dueNoCoefficient(flowOf("x=x+x-x;", 4, ONE, 4, LIMIT, LIMIT), 0, 1, ArithmeticException.class);
        dueCoefficient(flowOf("x=x-x+x;", 4, ONE, 4, LIMIT, LIMIT), 0, 1, LIMIT, LIMIT);
        dueNoCoefficient(flowOf("x=0x^2;", 4, ONE, 4, -LIMIT, -LIMIT), 0, 10, none);
        dueCoefficient(flowOf("x=0x^2;", 4, ONE, 4, -LIMIT, -LIMIT), 0, 1, 0, 0);
        dueNoCoefficient(flowOf("x=1/2x-x;", 4, ONE, 4, -LIMIT, LIMIT), 0, 1, ArithmeticException.class);
        check.due("a refused coefficient leaves the run", flow.state(2), 1);
    }
}
