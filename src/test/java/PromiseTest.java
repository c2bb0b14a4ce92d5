import java.util.function.Consumer;

/**
 * The sentences of promises 1 to 11 and of "What it is", one method each: the last value that is still taken, the first
 * one that is not, and that a refused call leaves all as it is.
 */
public final class PromiseTest {
    private static final int ONE = Bench.ONE;
    private static final int LIMIT = Bench.LIMIT;
    private static final int NONE = Bench.NONE;
    private static final int LEAST = Integer.MIN_VALUE;
    private static final int MOST = Integer.MAX_VALUE;
    private static final Bench bench = new Bench("PromiseTest");

    public static void main(String[] args) {
        used512Times();
        newObject();
        newObjectRefuses();
        typeTakesOneToEightBytes();
        typeTakesTheHighestFirst();
        typeTakes33To126();
        typeIsRefusedForAnyByte();
        typeFillsTheTape();
        typeRefusedChangesNothing();
        compileTellsHowManySides();
        compileForgetsEarlierProblems();
        compileEmptiesTheTape();
        compileBeginsAllLettersAtZero();
        compileBeginsTheRunAnew();
        compileWithAFaultChangesNothing();
        compileOfAnEmptyTape();
        faultIsOfTheLatestCompile();
        beginSetsALetter();
        beginBeginsTheRunAnew();
        beginIsRefused();
        settleBeginsTheRunAnew();
        settleIsRefused();
        stepDoesAtMostN();
        stepGoesToTheHorizon();
        stepWithoutAProblem();
        stepIsRefusedBehindOthers();
        stepWithAWrongN();
        stateAnswers();
        stateOfNone();
        stateTellsWhy();
        boxAnswers();
        boxOfTheFirstIsItsOwn();
        boxThereIsNone();
        boxKeepsTheFirst400();
        crossingAnswers();
        crossingThereIsNone();
        crossingKeepsTheFirst100();
        coefficientIsOverThePresentBox();
        coefficientThereIsNone();
        coefficientIsBeyondForAllLetters();
        coefficientIsBeyondUpToItsNumber();
        askingChangesNothing();
        bench.end();
    }

    // ---- objects that refused calls are made on

    /** In the middle of a run, with a fault told, and with a problem on the tape of which only the ; is missing. */
    private static BoxFlow inTheMiddle() {
        BoxFlow flow = bench.flowOf("x=y;y=-x;g=x-1/4;", 3, ONE / 2, 3, 5, 9, ONE, ONE);
        bench.typeAll(flow, "x=1;?");
        Bench.answer(() -> flow.compile());
        flow.step(2);
        bench.typeAll(flow, "x=1-x");
        return flow;
    }

    /** Without a problem, with one on the tape of which only the ; is missing. */
    private static BoxFlow withoutAProblem() {
        BoxFlow flow = new BoxFlow();
        bench.typeAll(flow, "x=1;y=2-y");
        return flow;
    }

    private static void dueNothingChanged(String call, Consumer<BoxFlow> calls) {
        bench.dueAsIfNotCalled(call, () -> inTheMiddle(), calls);
    }

    // ---- What it is

    /** "An object is used for at most 512 calls": all of them answer as due. */
    private static void used512Times() {
        BoxFlow flow = new BoxFlow();
        bench.typeAll(flow, "x=1;g=x-1/3;");
        bench.due("compile()", flow.compile(), 1);
        bench.due("settle", flow.settle(8, 1 << 26, 10), true);
        int calls = 4;
        for (int i = 0; i < 327; i++, calls++) {
            bench.due("step(200)", flow.step(200), 200);
        }
        bench.due("step(200) to the farthest HORIZON", flow.step(200), 136);
        calls++;
        bench.dueState("65537 boxes", flow, 1 << 26, 10, 65537, 0, 65536, 1);
        calls += 6;
        for (int i = 0; i < 19; i++, calls += 9) {
            int box = 21 * i;
            bench.dueBox(flow, box, 0, box * 1024, box * 1024, Math.max(0, box - 1) * 1024, box * 1024);
            bench.dueBox(flow, box, 3, box * 1024, box * 1024 > ONE / 3 ? 1 : -1);
            bench.dueCrossing(flow, 0, 341, 342, 1);
        }
        bench.dueCoefficient(flow, 0, 0, 1 << 26, 1 << 26);
        calls += 2;
        bench.due("the 512th call: state(2)", flow.state(2), 65537);
        bench.due("calls", calls + 1, 512);
    }

    // ---- promise 1

    /** "makes an object in the state that the terms give": no problem, an empty tape, the first settings. */
    private static void newObject() {
        BoxFlow flow = new BoxFlow();
        bench.dueState("new", flow, 0, 4, 0, 0, 0, 0);
        bench.due("fault()", flow.fault(), NONE);
        bench.dueThrow("compile(): the tape is empty", () -> flow.compile(), IllegalArgumentException.class);
        bench.due("fault()", flow.fault(), 0);
        bench.due("settle without a problem", flow.settle(8, 160, 7), true);
        bench.dueState("settled", flow, 0, 7, 0, 0, 0, 0);
        bench.typeAll(flow, "x=1;");
        bench.due("compile()", flow.compile(), 1);
        bench.due("step(200): settled before there was a problem", flow.step(200), 2);
    }

    private static void newObjectRefuses() {
        bench.dueAsIfNotCalled("calls that need a problem", () -> withoutAProblem(), flow -> {
            bench.due("begin without a problem", flow.begin(0, 0, 0), false);
            bench.dueThrow("step(1)", () -> flow.step(1), IllegalStateException.class);
            bench.dueNoBox(flow, 0, 0, 0);
            bench.dueNoBox(flow, 0, 3, 0);
            bench.dueNoBox(flow, 0, 3, 1);
            bench.dueNoCrossing(flow, 0, 0);
            bench.dueNoCoefficient(flow, 0, 0, IndexOutOfBoundsException.class);
        });
        BoxFlow one = new BoxFlow();
        BoxFlow other = bench.flowOf("x=1;");
        bench.dueState("another object has its own state", one, 0, 4, 0, 0, 0, 0);
        bench.due("another object's problem", other.state(2), 1);
    }

    // ---- promise 2

    /** "The n (1 .. 8) lowest bytes of word"; "false .. for another n" */
    private static void typeTakesOneToEightBytes() {
        String problem = "x=x-x;g=x;";
        for (int n = 1; n <= 8; n++) {
            BoxFlow flow = new BoxFlow();
            bench.due("type with n " + n, flow.type(Bench.wordOf(problem.substring(0, n)), n), true);
            bench.typeAll(flow, problem.substring(n));
            bench.due("compile() behind n " + n, flow.compile(), 1);
        }
        for (int n : new int[] {LEAST, -8, -1, 0, 9, 16, 240, 256 + 1, MOST}) {
            dueNothingChanged("type with n " + n, flow ->
                bench.due("type with n " + n, flow.type(0x7878787878787878L, n), false));
        }
    }

    /** "the highest first": and what stands above the n lowest ones does not count. */
    private static void typeTakesTheHighestFirst() {
        BoxFlow flow = new BoxFlow();
        bench.due("type of x=1 below other bytes", flow.type(0xff00ff2000783d31L, 3), true);
        bench.due("type of ; below other bytes", flow.type(0x7f7f7f7f7f7f7f3bL, 1), true);
        bench.due("type of eight", flow.type(0x793d322d793b673dL, 8), true);
        bench.due("type of two", flow.type(-1L << 16 | 0x793bL, 2), true);
        bench.due("compile() of x=1;y=2-y;g=y;", flow.compile(), 2);
        bench.dueCoefficient(flow, 0, 1, ONE, ONE);
        bench.dueCoefficient(flow, 1, 1, 2 * ONE, 2 * ONE);
    }

    /** "a byte that is not 33 .. 126" */
    private static void typeTakes33To126() {
        for (int c = 0; c < 256; c++) {
            BoxFlow flow = new BoxFlow();
            bench.due("type of " + c, flow.type(c, 1), c >= 33 && c <= 126);
        }
    }

    private static void typeIsRefusedForAnyByte() {
        dueNothingChanged("type with a wrong byte", flow -> {
            for (long wrong : new long[] {0, 32, 127, 128, 255}) {
                for (int place = 0; place < 8; place++) {
                    long word = 0x7878787878787878L & ~(255L << 8 * place) | wrong << 8 * place;
                    bench.due("type of " + wrong + " at " + place, flow.type(word, 8), false);
                }
            }
        });
    }

    /** "or if it would have more than 240" */
    private static void typeFillsTheTape() {
        for (int n = 1; n <= 8; n++) {
            BoxFlow flow = new BoxFlow();
            bench.typeAll(flow, "x".repeat(240 - n));
            if (n < 8) {
                bench.due("type to 241", flow.type(0x7878787878787878L, n + 1), false);
            }
            bench.due("type to 248 less " + n, flow.type(0x7878787878787878L, 8), n == 8);
            bench.due("type to 240", flow.type(0x7878787878787878L, n), n < 8);
            bench.due("type to 241", flow.type('x', 1), false);
            bench.due("type of nothing", flow.type('x', 0), false);
            bench.dueThrow("compile()", () -> flow.compile(), IllegalArgumentException.class);
            bench.due("type on the empty tape", flow.type(0x7878787878787878L, 8), true);
        }
    }

    /** "false, changing nothing": the tape is a problem of 240 characters, and stays it. */
    private static void typeRefusedChangesNothing() {
        String full = "x=1+111+111;y=2" + "+000/01x^1y^1".repeat(11) + ";g=" + "x^2y^2+".repeat(11) + "1;";
        bench.due("characters", full.length(), 240);
        BoxFlow flow = new BoxFlow();
        bench.typeAll(flow, full.substring(0, 239));
        bench.due("type of a wrong byte", flow.type(31, 1), false);
        bench.due("type with a wrong n", flow.type(';', 9), false);
        bench.due("type of the last one", flow.type(';', 1), true);
        for (int n = 1; n <= 8; n++) {
            bench.due("type of " + n + " more", flow.type(0x3b3b3b3b3b3b3b3bL, n), false);
        }
        bench.due("compile()", flow.compile(), 2);
    }

    // ---- promise 3

    /** "The tape .. is the problem: how many SIDES." */
    private static void compileTellsHowManySides() {
        BoxFlow flow = new BoxFlow();
        String[] tapes = {"x=1;", "x=1;g=x;", "x=1;y=1;", "x=1;y=1;z=1;", "x=1;y=1;z=1;g=1;", "x=1;y=1;g=y;", "x=1;"};
        int[] sides = {1, 1, 2, 3, 3, 2, 1};
        for (int i = 0; i < tapes.length; i++) {
            bench.typeAll(flow, tapes[i]);
            bench.due("compile() of " + tapes[i], flow.compile(), sides[i]);
            for (int v = 0; v < 3; v++) {
                bench.due("begin of letter " + v, flow.begin(v, 0, 0), v < sides[i]);
            }
        }
        bench.dueNoBox(flow, 0, 1, 0);
        bench.dueBox(flow, 0, 3, 0, 0);
    }

    /** Each problem is the one that stands on the tape, whatever was compiled before it, with a fault or without. */
    private static void compileForgetsEarlierProblems() {
        String[] tapes = {"x=7x^2y^3z-5y;y=x^4;z=z^2;g=x-y-z;", "x=2;y=x;g=y;", "x=3x+y;y=2x;g=5;", "x=1/2;", "x=4x;g=x^2;"};
        BoxFlow flow = new BoxFlow();
        for (String tape : tapes) {
            for (String spoilt : new String[] {"", "x=9x^2y^2z^2+8xyz;y=7z;z=6x;g=x^4;?"}) {
                bench.typeAll(flow, spoilt);
                if (!spoilt.isEmpty()) {
                    bench.dueThrow("compile()", () -> flow.compile(), IllegalArgumentException.class);
                }
                bench.typeAll(flow, tape);
                flow.compile();
                BoxFlow other = bench.flowOf(tape, 4, ONE, 4);
                bench.begin(flow, ONE, ONE + 5);
                bench.begin(other, ONE, ONE + 5);
                bench.due("sign of " + tape, flow.box(0, 3, 1), other.box(0, 3, 1));
                for (int k = 1; k <= 4; k++) {
                    int number = k;
                    bench.due("coefficient of " + tape, Bench.answer(() -> flow.coefficient(0, number, true)),
                        Bench.answer(() -> other.coefficient(0, number, true)));
                }
                bench.due("step(2) of " + tape, Bench.answer(() -> flow.step(2)), Bench.answer(() -> other.step(2)));
                bench.due("coefficient behind it", flow.coefficient(0, 0, true), other.coefficient(0, 0, true));
            }
        }
    }

    /** "(which is empty then in any case)" */
    private static void compileEmptiesTheTape() {
        BoxFlow flow = bench.flowOf("x=1;");
        bench.dueThrow("compile() behind a good one", () -> flow.compile(), IllegalArgumentException.class);
        bench.due("fault()", flow.fault(), 0);
        bench.typeAll(flow, "x=1;?");
        bench.dueThrow("compile()", () -> flow.compile(), IllegalArgumentException.class);
        bench.due("fault()", flow.fault(), 4);
        bench.dueThrow("compile() behind a fault", () -> flow.compile(), IllegalArgumentException.class);
        bench.due("fault()", flow.fault(), 0);
        bench.typeAll(flow, "x=1;?");
        bench.dueThrow("compile()", () -> flow.compile(), IllegalArgumentException.class);
        bench.typeAll(flow, "x=1;y=2;");
        bench.due("compile() behind a fault", flow.compile(), 2);
        for (int i = 0; i < 30; i++) {
            bench.due("type", flow.type(0x7878787878787878L, 8), true);
        }
        bench.due("type on a full tape", flow.type('x', 1), false);
        bench.dueThrow("compile() of a full tape", () -> flow.compile(), IllegalArgumentException.class);
        bench.due("type on an empty tape", flow.type('x', 1), true);
    }

    /** "All letters begin at 0 (0 to 0)" */
    private static void compileBeginsAllLettersAtZero() {
        BoxFlow flow = bench.flowOf("x=1;y=2;z=3;", 4, ONE, 3, 1, 2, 3, 4, 5, 6);
        flow.step(2);
        bench.typeAll(flow, "x=0;y=0;z=0;");
        bench.due("compile()", flow.compile(), 3);
        for (int v = 0; v < 3; v++) {
            bench.dueBox(flow, 0, v, 0, 0, 0, 0);
            bench.dueCoefficient(flow, v, 0, 0, 0);
        }
        // Also those that only a later problem has again, and also when the run begins anew once more.
        bench.due("begin", flow.begin(2, 7, 8), true);
        bench.typeAll(flow, "x=0;");
        flow.compile();
        bench.typeAll(flow, "x=0;y=0;z=0;");
        flow.compile();
        flow.settle(4, ONE, 3);
        bench.dueBox(flow, 0, 2, 0, 0, 0, 0);
    }

    /** "the run begins anew": with the same ORDER, HORIZON and COARSENESS. */
    private static void compileBeginsTheRunAnew() {
        BoxFlow flow = bench.flowOf("x=1;g=x-1/4;", 2, 3 * ONE, 1);
        flow.step(2);
        bench.dueState("two steps", flow, ONE, 1, 3, 0, 2, 1);
        bench.typeAll(flow, "x=y;y=-x;z=0;g=z-1;");
        bench.due("compile()", flow.compile(), 3);
        bench.dueState("compiled", flow, 0, 1, 1, 0, 0, 0);
        bench.dueBox(flow, 0, 3, 0, -1);
        bench.dueNoBox(flow, 1, 3, 0);
        bench.dueNoCrossing(flow, 0, 0);
        bench.due("step(200): HORIZON and COARSENESS stay", flow.step(200), 6);
        bench.typeAll(flow, "x=3x;");
        flow.compile();
        flow.begin(0, ONE, ONE);
        bench.dueStep(flow);
        BoxFlow other = bench.flowOf("x=3x;", 2, 3 * ONE, 1, ONE, ONE);
        bench.dueStep(other);
        bench.dueAlike("ORDER stays", flow, other);
    }

    /** "IllegalArgumentException: it has a fault; all stays as it is." */
    private static void compileWithAFaultChangesNothing() {
        String[] tapes = {"x=1;y=2;z=3;g=7", "x=1;g=1/0;", "x=9;y=z;", "?", "x=1;y=1;g=x-1/4;;"};
        for (String tape : tapes) {
            BoxFlow flow = bench.flowOf("x=y;y=-x;g=x-1/4;", 3, ONE / 2, 3, 5, 9, ONE, ONE);
            BoxFlow other = bench.flowOf("x=y;y=-x;g=x-1/4;", 3, ONE / 2, 3, 5, 9, ONE, ONE);
            flow.step(2);
            other.step(2);
            bench.typeAll(flow, tape);
            bench.dueThrow("compile() of " + tape, () -> flow.compile(), IllegalArgumentException.class);
            bench.due("all but the fault behind " + tape, Bench.lookAtRun(flow, 0, 1, 2, 3, 4, 5),
                Bench.lookAtRun(other, 0, 1, 2, 3, 4, 5));
            // An empty tape has a fault as well, and leaves both with the same one.
            bench.dueThrow("compile()", () -> flow.compile(), IllegalArgumentException.class);
            bench.dueThrow("compile()", () -> other.compile(), IllegalArgumentException.class);
            bench.typeAll(flow, "x=1-x");
            bench.typeAll(other, "x=1-x");
            bench.goOnAlike("behind " + tape, flow, other);
        }
        BoxFlow none = new BoxFlow();
        bench.typeAll(none, "x=1;y=2;?");
        bench.dueThrow("compile()", () -> none.compile(), IllegalArgumentException.class);
        bench.dueThrow("step(1): there is still no problem", () -> none.step(1), IllegalStateException.class);
        bench.dueState("still no problem", none, 0, 4, 0, 0, 0, 0);
        bench.due("begin: there is still no letter", none.begin(0, 0, 0), false);
    }

    private static void compileOfAnEmptyTape() {
        BoxFlow flow = bench.flowOf("x=1;", 4, ONE, 2);
        flow.step(1);
        bench.dueThrow("compile()", () -> flow.compile(), IllegalArgumentException.class);
        bench.due("fault(): the tape's length", flow.fault(), 0);
        bench.dueState("as before", flow, ONE / 4, 2, 2, 0, 1, 0);
    }

    // ---- promise 4

    /** "The place of the fault of the latest compile(); NONE for none." */
    private static void faultIsOfTheLatestCompile() {
        BoxFlow flow = new BoxFlow();
        bench.due("NONE", NONE, -1);
        bench.due("fault() without a compile()", flow.fault(), NONE);
        bench.typeAll(flow, "x=1;?");
        bench.due("fault() before compile()", flow.fault(), NONE);
        Bench.answer(() -> flow.compile());
        bench.due("fault()", flow.fault(), 4);
        bench.typeAll(flow, "x=1;");
        flow.settle(4, ONE, 2);
        flow.begin(0, 1, 0);
        bench.due("fault() before the next compile()", flow.fault(), 4);
        bench.due("compile()", flow.compile(), 1);
        bench.due("fault() behind a good one", flow.fault(), NONE);
        bench.typeAll(flow, "x=1;y=z;");
        Bench.answer(() -> flow.compile());
        bench.due("fault()", flow.fault(), 6);
        bench.due("fault() asked twice", flow.fault(), 6);
        flow.begin(0, 0, 1);
        flow.step(3);
        flow.settle(4, ONE, 3);
        bench.due("fault() behind other calls", flow.fault(), 6);
        bench.typeAll(flow, "x=1;g=x;z");
        Bench.answer(() -> flow.compile());
        bench.due("fault() at the tape's last character", flow.fault(), 8);
        bench.typeAll(flow, "x=" + "001/01x^1x^1x^1x^1x^1x^1+".repeat(9) + "1/01+1/02-1/0");
        Bench.answer(() -> flow.compile());
        bench.due("fault() at 239 of 240", flow.fault(), 239);
        bench.typeAll(flow, "x=" + "001/01x^1x^1x^1x^1x^1x^1+".repeat(9) + "1/01+1/02-1/3");
        Bench.answer(() -> flow.compile());
        bench.due("fault() at the length 240", flow.fault(), 240);
    }

    // ---- promise 5

    /** "Letter v (0 x, 1 y, 2 z) begins between low and high" */
    private static void beginSetsALetter() {
        BoxFlow flow = bench.flowOf("x=1;y=2;z=3;g=y-1;");
        bench.due("begin of z", flow.begin(2, -3, 4), true);
        bench.due("begin of y", flow.begin(1, 3 * ONE, 3 * ONE + 7), true);
        bench.dueBox(flow, 0, 0, 0, 0, 0, 0);
        bench.dueBox(flow, 0, 1, 3 * ONE, 3 * ONE + 7, 3 * ONE, 3 * ONE + 7);
        bench.dueBox(flow, 0, 2, -3, 4, -3, 4);
        bench.dueBox(flow, 0, 3, 0, 1);
        bench.due("begin of x at a point", flow.begin(0, -5, -5), true);
        bench.dueBox(flow, 0, 0, -5, -5, -5, -5);
        bench.dueBox(flow, 0, 1, 3 * ONE, 3 * ONE + 7, 3 * ONE, 3 * ONE + 7);
        bench.due("begin of x at the LIMIT", flow.begin(0, -LIMIT, LIMIT), true);
        bench.dueBox(flow, 0, 0, -LIMIT, LIMIT, -LIMIT, LIMIT);
        bench.due("begin of x at the LIMIT below", flow.begin(0, -LIMIT, -LIMIT), true);
        bench.due("begin of x at the LIMIT above", flow.begin(0, LIMIT, LIMIT), true);
        bench.dueBox(flow, 0, 0, LIMIT, LIMIT, LIMIT, LIMIT);
    }

    /** "the run begins anew: true" */
    private static void beginBeginsTheRunAnew() {
        BoxFlow flow = bench.flowOf("x=1;y=2;g=y-1/4;", 4, ONE, 3);
        flow.step(2);
        bench.dueState("two steps", flow, ONE / 4, 3, 3, 0, 2, 1);
        bench.due("begin with what it had", flow.begin(0, 0, 0), true);
        bench.dueState("begun", flow, 0, 3, 1, 0, 0, 0);
        bench.dueNoBox(flow, 1, 0, 0);
        bench.dueNoCrossing(flow, 0, 0);
        bench.dueCoefficient(flow, 1, 0, 0, 0);
        bench.due("step(200)", flow.step(200), 8);
    }

    /** "false if there is none such, low is above high, or one is beyond the LIMIT" */
    private static void beginIsRefused() {
        int[][] wrong = {{2, 0, 0}, {3, 0, 0}, {-1, 0, 0}, {LEAST, 0, 0}, {MOST, 0, 0}, {0, 1, 0}, {0, -4, -5},
            {0, LIMIT, -LIMIT}, {0, -LIMIT - 1, 0}, {0, 0, LIMIT + 1}, {1, LIMIT + 1, LIMIT + 1},
            {1, -LIMIT - 1, -LIMIT - 1}, {1, LEAST, MOST}, {0, LEAST, 0}, {0, 0, MOST}, {0, MOST, LEAST}};
        for (int[] w : wrong) {
            String call = "begin(" + w[0] + ", " + w[1] + ", " + w[2] + ")";
            dueNothingChanged(call, flow -> bench.due(call, flow.begin(w[0], w[1], w[2]), false));
        }
        BoxFlow one = bench.flowOf("x=1;");
        bench.due("begin of y without its SIDE", one.begin(1, 0, 0), false);
        BoxFlow three = bench.flowOf("x=1;y=1;z=1;");
        bench.due("begin of z", three.begin(2, 0, 0), true);
        bench.due("begin of no letter", three.begin(3, 0, 0), false);
    }

    // ---- promise 6

    /** "ORDER, HORIZON, COARSENESS; the run begins anew: true" */
    private static void settleBeginsTheRunAnew() {
        BoxFlow flow = bench.flowOf("x=1;g=x-1/4;", 4, ONE, 3, 7, 9);
        flow.step(3);
        bench.dueState("three steps", flow, 3 * ONE / 8, 3, 4, 0, 3, 1);
        bench.due("settle with what it had", flow.settle(4, ONE, 3), true);
        bench.dueState("anew", flow, 0, 3, 1, 0, 0, 0);
        bench.dueBox(flow, 0, 0, 7, 9, 7, 9);
        bench.dueNoBox(flow, 1, 0, 0);
        bench.dueNoCrossing(flow, 0, 0);
        bench.due("settle(1, 0, 0)", flow.settle(1, 0, 0), true);
        bench.dueState("anew", flow, 0, 0, 1, 0, 0, 0);
        bench.due("settle(8, 2^26, 10)", flow.settle(8, 1 << 26, 10), true);
        bench.dueState("anew", flow, 0, 10, 1, 0, 0, 0);
        bench.dueStep(flow);
        bench.dueState("stepped", flow, 1024, 10, 2, 0, 1, 0);
    }

    /** "false if one is not as told" */
    private static void settleIsRefused() {
        int[][] wrong = {{0, 16, 0}, {9, 16, 0}, {-1, 16, 0}, {LEAST, 16, 0}, {MOST, 16, 0}, {1, 8, 0}, {1, 15, 0},
            {1, 17, 0}, {1, -16, 0}, {1, (1 << 26) + 16, 0}, {1, LEAST, 0}, {1, MOST, 0}, {1, 16, -1}, {1, 16, 11},
            {1, 16, LEAST}, {1, 16, MOST}, {0, 15, 11}};
        for (int[] w : wrong) {
            String call = "settle(" + w[0] + ", " + w[1] + ", " + w[2] + ")";
            dueNothingChanged(call, flow -> bench.due(call, flow.settle(w[0], w[1], w[2]), false));
        }
        bench.dueAsIfNotCalled("settle without a problem", () -> withoutAProblem(), flow ->
            bench.due("settle(9, 16, 0)", flow.settle(9, 16, 0), false));
    }

    // ---- promise 7

    /** "At most n STEPS .. : how many were done."; "n is not 1 .. 200" */
    private static void stepDoesAtMostN() {
        BoxFlow flow = bench.flowOf("x=1;", 4, ONE, 10);
        bench.due("step(1)", flow.step(1), 1);
        bench.dueState("one step", flow, 1024, 10, 2, 0, 1, 0);
        bench.due("step(200)", flow.step(200), 200);
        bench.dueState("201 steps", flow, 201 * 1024, 10, 202, 0, 201, 0);
        bench.due("step(199)", flow.step(199), 199);
        bench.due("step(2)", flow.step(2), 2);
        bench.dueState("402 steps", flow, 402 * 1024, 10, 403, 0, 402, 0);
    }

    /** "until the HORIZON is come to" */
    private static void stepGoesToTheHorizon() {
        BoxFlow flow = bench.flowOf("x=1;", 3, 16000, 0, 100, 200);
        bench.due("step(2)", flow.step(2), 2);
        bench.dueState("two steps", flow, 8192 + 4096, 8, 3, 0, 2, 0);
        bench.due("step(200)", flow.step(200), 4);
        bench.dueState("at the HORIZON", flow, 16000, 13, 7, 0, 6, 0);
        bench.dueBox(flow, 6, 0, 16100, 16200, 15972, 16200);
        bench.due("step(1) at the HORIZON", flow.step(1), 0);
        bench.due("step(200) at the HORIZON", flow.step(200), 0);
        bench.dueState("still there", flow, 16000, 13, 7, 0, 6, 0);
        flow.settle(3, 4 * ONE, 0);
        bench.due("step(4) that ends there", flow.step(4), 4);
        bench.due("step(1) at the HORIZON", flow.step(1), 0);
        BoxFlow fine = bench.flowOf("x=-1/2;", 1, 16, 0);
        bench.due("step(200)", fine.step(200), 1);
        bench.dueState("the finest step", fine, 16, 16, 2, 0, 1, 0);
        bench.dueBox(fine, 1, 0, -8, -8, -8, 0);
    }

    /** "IllegalStateException: there is no problem" */
    private static void stepWithoutAProblem() {
        for (int n : new int[] {1, 200, 0, 201}) {
            bench.dueAsIfNotCalled("step(" + n + ") without a problem", () -> withoutAProblem(), flow ->
                bench.dueThrow("step(" + n + ")", () -> flow.step(n), IllegalStateException.class));
        }
        BoxFlow flow = new BoxFlow();
        flow.settle(4, 0, 4);
        bench.dueThrow("step(1) with the HORIZON 0", () -> flow.step(1), IllegalStateException.class);
    }

    /** "ArithmeticException: one was REFUSED (those ahead of it are done)" */
    private static void stepIsRefusedBehindOthers() {
        BoxFlow flow = bench.flowOf("x=999;g=x-300;", 4, 1 << 22, 2);
        BoxFlow other = bench.flowOf("x=999;g=x-300;", 4, 1 << 22, 2);
        bench.dueThrow("step(200)", () -> flow.step(200), ArithmeticException.class);
        bench.dueState("BEYOND behind three steps", flow, 3 * ONE / 4, 2, 4, 2, 4, 1);
        bench.dueBox(flow, 3, 0, 999 * (3 * ONE / 4), 999 * (3 * ONE / 4), 999 * (ONE / 2), 999 * (3 * ONE / 4));
        bench.dueNoBox(flow, 4, 0, 0);
        bench.due("step(3): just those", other.step(3), 3);
        bench.due("those ahead of it are done", Bench.lookAtRun(flow, 0, 1, 2, 5), Bench.lookAtRun(other, 0, 1, 2, 5));
        bench.dueThrow("step(1)", () -> other.step(1), ArithmeticException.class);
        bench.dueAlike("the step that is REFUSED alone", flow, other);
    }

    /** "IllegalArgumentException: n is not 1 .. 200" */
    private static void stepWithAWrongN() {
        for (int n : new int[] {0, -1, 201, 202, LEAST, MOST}) {
            dueNothingChanged("step(" + n + ")", flow ->
                bench.dueThrow("step(" + n + ")", () -> flow.step(n), IllegalArgumentException.class));
        }
        BoxFlow there = bench.flowOf("x=1;", 4, 0, 0);
        bench.dueThrow("step(0) at the HORIZON", () -> there.step(0), IllegalArgumentException.class);
        bench.dueThrow("step(201) at the HORIZON", () -> there.step(201), IllegalArgumentException.class);
        BoxFlow beyond = bench.flowOf("x=0;", 4, ONE, 0, LIMIT, LIMIT);
        bench.dueThrow("step(201) that would be REFUSED", () -> beyond.step(201), IllegalArgumentException.class);
        bench.dueState("not tried", beyond, 0, 0, 1, 0, 0, 0);
    }

    // ---- promise 8

    private static void stateAnswers() {
        BoxFlow flow = bench.flowOf("x=1;g=x-1/2;", 4, ONE, 2);
        bench.dueState("begun", flow, 0, 2, 1, 0, 0, 0);
        flow.step(3);
        bench.dueState("three steps", flow, 3 * ONE / 4, 2, 4, 0, 3, 1);
    }

    /** "NONE for another what." */
    private static void stateOfNone() {
        BoxFlow flow = bench.flowOf("x=1;");
        BoxFlow fresh = new BoxFlow();
        for (int what : new int[] {LEAST, -1, 6, 7, MOST}) {
            bench.due("state(" + what + ")", flow.state(what), NONE);
            bench.due("state(" + what + ") without a problem", fresh.state(what), NONE);
        }
    }

    /** "3: why the latest step was REFUSED: 0 it was not, 1 FAILED, 2 BEYOND" */
    private static void stateTellsWhy() {
        BoxFlow flow = bench.flowOf("x=999;", 4, 1 << 22, 1);
        bench.due("state(3) without a step", flow.state(3), 0);
        bench.dueStep(flow);
        bench.due("state(3) behind a step", flow.state(3), 0);
        bench.dueRefused(flow, 2);
        bench.dueThrow("step(0)", () -> flow.step(0), IllegalArgumentException.class);
        bench.due("state(3): a wrong n is no step", flow.state(3), 2);
        flow.settle(9, 0, 0);
        flow.begin(0, 1, 0);
        bench.due("state(3) behind refused calls", flow.state(3), 2);
        bench.due("begin", flow.begin(0, 0, 0), true);
        bench.due("state(3) of a run that begins anew", flow.state(3), 0);
        bench.dueStep(flow);
        bench.dueRefused(flow, 2);
        bench.typeAll(flow, "x=999x^4x^2" + "-999x^4x^2+999x^4x^2".repeat(5) + "-999x^4x^2;");
        bench.due("compile()", flow.compile(), 1);
        bench.due("state(3) of a run that begins anew", flow.state(3), 0);
        flow.settle(1, 16, 0);
        flow.begin(0, ONE, ONE);
        bench.dueRefused(flow, 1);
        flow.settle(1, 16, 0);
        bench.due("state(3) of a run that begins anew", flow.state(3), 0);
    }

    // ---- promise 9

    /** "letter v: its low end (what 0), high end (1), of the PROVED box .. (2, 3 ..); v = 3: its time (what 0), sign (1)" */
    private static void boxAnswers() {
        BoxFlow flow = bench.flowOf("x=1;y=-1;g=x+y-1;", 4, ONE, 2, 10, 20, -7, -7);
        bench.due("step(2)", flow.step(2), 2);
        bench.dueBox(flow, 1, 0, ONE / 4 + 10, ONE / 4 + 20, 10, ONE / 4 + 20);
        bench.dueBox(flow, 1, 1, -ONE / 4 - 7, -ONE / 4 - 7, -ONE / 4 - 7, -7);
        bench.dueBox(flow, 2, 0, ONE / 2 + 10, ONE / 2 + 20, ONE / 4 + 10, ONE / 2 + 20);
        bench.dueBox(flow, 2, 3, ONE / 2, -1);
        BoxFlow three = bench.flowOf("x=1;y=1;z=1;", 1, ONE, 2, 0, 0, 0, 0, 3, 4);
        three.step(1);
        bench.dueBox(three, 1, 2, ONE / 4 + 3, ONE / 4 + 4, 3, ONE / 4 + 4);
        bench.dueBox(three, 1, 3, ONE / 4, 0);
    }

    /** "(.. of the first one its own)" */
    private static void boxOfTheFirstIsItsOwn() {
        BoxFlow flow = bench.flowOf("x=1;y=-1;g=x+y-1;", 4, ONE, 2, 10, 20, -7, -7);
        flow.step(2);
        bench.dueBox(flow, 0, 0, 10, 20, 10, 20);
        bench.dueBox(flow, 0, 1, -7, -7, -7, -7);
        bench.dueBox(flow, 0, 3, 0, -1);
    }

    /** "IndexOutOfBoundsException: there is none such." */
    private static void boxThereIsNone() {
        BoxFlow flow = bench.flowOf("x=1;y=-1;g=x+y-1;", 4, ONE, 2);
        flow.step(2);
        int[][] wrong = {{-1, 0, 0}, {3, 0, 0}, {-1, 3, 0}, {3, 3, 0}, {0, -1, 0}, {0, 2, 0}, {0, 4, 0}, {0, 0, -1},
            {0, 0, 4}, {0, 1, 4}, {0, 3, -1}, {0, 3, 2}, {0, 3, 3}, {0, 4, 1}, {LEAST, 0, 0}, {MOST, 0, 0}, {0, LEAST, 0},
            {0, MOST, 0}, {0, 0, LEAST}, {0, 0, MOST}, {2, 2, 3}, {LEAST, 3, 0}, {MOST, 3, 1}};
        for (int[] w : wrong) {
            bench.dueNoBox(flow, w[0], w[1], w[2]);
        }
        bench.dueBox(flow, 2, 1, -ONE / 2, -ONE / 2, -ONE / 2, -ONE / 4);
        flow.begin(0, 0, 0);
        bench.dueNoBox(flow, 1, 0, 0);
        for (int sides = 1; sides <= 3; sides++) {
            BoxFlow some = bench.flowOf("x=1;y=1;z=1;".substring(0, 4 * sides));
            bench.dueBox(some, 0, sides - 1, 0, 0, 0, 0);
            bench.dueBox(some, 0, 3, 0, 0);
            if (sides < 3) {
                bench.dueNoBox(some, 0, sides, 0);
            }
        }
    }

    /** "Box i of the tape (0 the first; the first 400 are kept)" */
    private static void boxKeepsTheFirst400() {
        BoxFlow flow = bench.flowOf("x=1;g=x-1/3;", 1, ONE, 10);
        bench.due("step(200)", flow.step(200), 200);
        bench.due("step(198)", flow.step(198), 198);
        bench.dueBox(flow, 398, 3, 398 * 1024, 1);
        bench.dueNoBox(flow, 399, 3, 0);
        bench.dueStep(flow);
        bench.dueState("400 boxes", flow, 399 * 1024, 10, 400, 0, 399, 1);
        bench.dueBox(flow, 399, 0, 399 * 1024, 399 * 1024, 398 * 1024, 399 * 1024);
        bench.dueStep(flow);
        bench.dueState("401 boxes", flow, 400 * 1024, 10, 401, 0, 400, 1);
        bench.dueNoBox(flow, 400, 0, 0);
        bench.dueNoBox(flow, 400, 3, 0);
        bench.due("step(200)", flow.step(200), 200);
        bench.dueState("601 boxes", flow, 600 * 1024, 10, 601, 0, 600, 1);
        bench.dueBox(flow, 0, 0, 0, 0, 0, 0);
        bench.dueBox(flow, 399, 0, 399 * 1024, 399 * 1024, 398 * 1024, 399 * 1024);
        bench.dueBox(flow, 399, 3, 399 * 1024, 1);
        bench.dueNoBox(flow, 400, 0, 0);
        bench.dueNoBox(flow, 600, 3, 0);
        bench.dueCoefficient(flow, 0, 0, 600 * 1024, 600 * 1024);
        flow.begin(0, 5, 5);
        bench.dueStep(flow);
        bench.dueBox(flow, 1, 0, 1029, 1029, 5, 1029);
        bench.dueNoBox(flow, 2, 0, 0);
    }

    // ---- promise 10

    /** "CROSSING i, from 0 on .., what 0: the number of the earlier box, 1: of the later one, 2: the later one's sign." */
    private static void crossingAnswers() {
        BoxFlow flow = bench.flowOf("x=1;g=-x^2+x-2/9;", 4, ONE, 4);
        bench.due("step(10)", flow.step(10), 10);
        bench.due("state(5)", flow.state(5), 1);
        bench.dueCrossing(flow, 0, 5, 6, 1);
        bench.dueNoCrossing(flow, 1, 0);
        bench.dueStep(flow);
        bench.due("state(5)", flow.state(5), 2);
        bench.dueCrossing(flow, 0, 5, 6, 1);
        bench.dueCrossing(flow, 1, 10, 11, -1);
    }

    /** "IndexOutOfBoundsException: there is none such." */
    private static void crossingThereIsNone() {
        BoxFlow flow = bench.flowOf("x=1;g=-x^2+x-2/9;", 4, ONE, 4);
        bench.dueNoCrossing(flow, 0, 0);
        flow.step(200);
        int[][] wrong = {{-1, 0}, {2, 0}, {2, 2}, {0, -1}, {0, 3}, {1, 3}, {LEAST, 0}, {MOST, 2}, {0, LEAST}, {0, MOST}};
        for (int[] w : wrong) {
            bench.dueNoCrossing(flow, w[0], w[1]);
        }
        flow.begin(0, 0, 0);
        bench.due("state(5) anew", flow.state(5), 0);
        bench.dueNoCrossing(flow, 0, 0);
    }

    /**
     * "(the first 100 are kept)". y is near to a Chebyshev polynomial of x, z swings with one of y, and g has six zeros on
     * each swing: 106 CROSSINGS in 1035 steps. The model tells what is due.
     */
    private static void crossingKeepsTheFirst100() {
        String tape = "x=1/16;y=432x^4x^2-540x^4+162x^2-27/4;z=1/64y^3-14/5y;g=1/80z^4z^2-17/96z^4+21/62z^2-1/30;";
        int[] ends = {-1013568, 3894113, 1936689};
        BoxFlow flow = bench.flowOf(tape, 3, 1 << 25, 5);
        Model model = new Model();
        model.tape.append(tape);
        model.compile();
        model.settle(3, 1 << 25, 5);
        for (int v = 0; v < 3; v++) {
            flow.begin(v, ends[v], ends[v]);
            model.begin(v, ends[v], ends[v]);
        }
        stepToCrossing(flow, model, 99);
        bench.dueNoCrossing(flow, 99, 0);
        stepToCrossing(flow, model, 100);
        bench.dueCrossing(flow, 99, model.crossing(99, 0), model.crossing(99, 1), model.crossing(99, 2));
        bench.due("crossing(99, 0) lies behind the boxes that are kept", flow.crossing(99, 0) > 400, true);
        stepToCrossing(flow, model, 101);
        bench.dueNoCrossing(flow, 100, 0);
        stepToCrossing(flow, model, 106);
        bench.dueNoCrossing(flow, 100, 0);
        bench.dueNoCrossing(flow, 105, 2);
        for (int i = 0; i < 100; i += 9) {
            bench.dueCrossing(flow, i, model.crossing(i, 0), model.crossing(i, 1), model.crossing(i, 2));
        }
    }

    private static void stepToCrossing(BoxFlow flow, Model model, int crossings) {
        int steps = 0;
        while (model.state(5) < crossings && model.step(1) == 1) {
            steps++;
        }
        for (int left = steps; left > 0; left -= 200) {
            bench.due("step", flow.step(Math.min(200, left)), Math.min(200, left));
        }
        for (int what = 0; what < 6; what++) {
            bench.due("state(" + what + ")", flow.state(what), model.state(what));
        }
        bench.due("state(5) counts all", flow.state(5), crossings);
    }

    // ---- promise 11

    /** "Number k (0 .. 9) of the COEFFICIENTS of letter v over the present box: low or (high) high end." */
    private static void coefficientIsOverThePresentBox() {
        BoxFlow flow = bench.flowOf("x=2;y=x;", 4, ONE, 2, 0, 3, 0, 0);
        bench.dueCoefficient(flow, 0, 0, 0, 3);
        bench.dueCoefficient(flow, 1, 1, 0, 3);
        flow.step(3);
        bench.dueCoefficient(flow, 0, 0, 3 * ONE / 2, 3 * ONE / 2 + 3);
        bench.dueCoefficient(flow, 1, 1, 3 * ONE / 2, 3 * ONE / 2 + 3);
        bench.dueCoefficient(flow, 1, 2, ONE, ONE);
        bench.dueCoefficient(flow, 1, 9, 0, 0);
        flow.begin(0, 5, 6);
        bench.dueCoefficient(flow, 0, 0, 5, 6);
        // More numbers than the ORDER has can be asked for.
        flow.settle(1, ONE, 2);
        bench.dueCoefficient(flow, 1, 2, ONE, ONE);
        bench.dueCoefficient(flow, 1, 9, 0, 0);
    }

    /** "IndexOutOfBoundsException: there is none such" */
    private static void coefficientThereIsNone() {
        int[][] wrong = {{-1, 0}, {2, 0}, {3, 0}, {0, -1}, {0, 10}, {1, 10}, {LEAST, 0}, {MOST, 0}, {0, LEAST}, {0, MOST},
            {2, 9}, {MOST, MOST}};
        dueNothingChanged("coefficient of none", flow -> {
            for (int[] w : wrong) {
                bench.dueNoCoefficient(flow, w[0], w[1], IndexOutOfBoundsException.class);
            }
        });
        BoxFlow far = bench.flowOf("x=x^2;");
        far.begin(0, LIMIT, LIMIT);
        bench.dueNoCoefficient(far, 0, 10, IndexOutOfBoundsException.class);
        bench.dueNoCoefficient(far, 1, 1, IndexOutOfBoundsException.class);
        bench.dueNoCoefficient(far, 0, 9, ArithmeticException.class);
    }

    /** "a number that comes up is beyond the LIMIT (of all letters ..)": those behind the letter and those ahead of it. */
    private static void coefficientIsBeyondForAllLetters() {
        String[] tapes = {"x=1;y=1;z=z^2;", "x=1;y=y^2;z=1;", "x=x^2;y=1;z=1;"};
        for (int i = 0; i < 3; i++) {
            BoxFlow flow = bench.flowOf(tapes[i]);
            int large = 2 - i;
            flow.begin(large, 32 * ONE, 32 * ONE);
            for (int v = 0; v < 3; v++) {
                int due = v == large ? LIMIT : ONE;
                bench.dueCoefficient(flow, v, 1, due, due);
            }
            flow.begin(large, 32 * ONE, 32 * ONE + 1);
            for (int v = 0; v < 3; v++) {
                bench.dueNoCoefficient(flow, v, 1, ArithmeticException.class);
                bench.dueNoCoefficient(flow, v, 9, ArithmeticException.class);
            }
            flow.begin(large, -32 * ONE - 1, 32 * ONE);
            bench.dueNoCoefficient(flow, 0, 1, ArithmeticException.class);
            flow.begin(large, -32 * ONE, 32 * ONE);
            bench.dueCoefficient(flow, large, 1, -LIMIT, LIMIT);
        }
    }

    /** "(.. up to number k)": lesser ones are told, whatever comes behind them. */
    private static void coefficientIsBeyondUpToItsNumber() {
        BoxFlow flow = bench.flowOf("x=x^2;", 4, ONE, 4, 4 * ONE, 4 * ONE);
        for (int time = 0; time < 2; time++) {
            for (int k = 0; k <= 3; k++) {
                bench.dueCoefficient(flow, 0, k, ONE << 2 * k + 2, ONE << 2 * k + 2);
            }
            for (int k = 4; k <= 9; k++) {
                bench.dueNoCoefficient(flow, 0, k, ArithmeticException.class);
            }
        }
        flow.begin(0, LIMIT, LIMIT);
        bench.dueCoefficient(flow, 0, 0, LIMIT, LIMIT);
        bench.dueNoCoefficient(flow, 0, 1, ArithmeticException.class);
        flow.begin(0, -LIMIT, -LIMIT);
        bench.dueCoefficient(flow, 0, 0, -LIMIT, -LIMIT);
        bench.dueNoCoefficient(flow, 0, 1, ArithmeticException.class);
        BoxFlow refused = bench.flowOf("x=x^2;", 4, ONE, 4, ONE / 2, ONE / 2);
        BoxFlow other = bench.flowOf("x=x^2;", 4, ONE, 4, ONE / 2, ONE / 2);
        refused.begin(0, 40 * ONE, 40 * ONE);
        bench.dueNoCoefficient(refused, 0, 9, ArithmeticException.class);
        refused.begin(0, ONE / 2, ONE / 2);
        refused.step(3);
        other.step(3);
        bench.dueAlike("behind a coefficient beyond the LIMIT", refused, other);
    }

    // ---- calls that only ask

    private static void askingChangesNothing() {
        dueNothingChanged("calls that only ask", flow -> {
            Bench.look(flow);
            for (int what = -1; what <= 6; what++) {
                flow.state(what);
            }
            for (int k = 0; k <= 9; k++) {
                flow.coefficient(k % 2, k, k % 3 == 0);
            }
        });
        dueNothingChanged("calls that ask for what there is not", flow -> {
            bench.dueNoBox(flow, 3, 0, 0);
            bench.dueNoBox(flow, -1, 3, 0);
            bench.dueNoBox(flow, 0, 2, 0);
            bench.dueNoBox(flow, 0, 0, 4);
            bench.dueNoCrossing(flow, 0, 0);
            bench.dueNoCrossing(flow, -1, 3);
            bench.dueNoCoefficient(flow, 2, 0, IndexOutOfBoundsException.class);
        });
    }
}
