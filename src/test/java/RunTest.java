/**
 * The sentences of "Terms" on a RUN, TO TRY a step, A STEP and CROSSINGS, one method each: the last value that is still
 * taken and the first one that is not.
 */
public final class RunTest {
    private static final int ONE = Bench.ONE;
    private static final int LIMIT = Bench.LIMIT;
    private static final int FAR = 1 << 26;
    private static final int FAILED = 1;
    private static final int BEYOND = 2;
    private static final Bench bench = new Bench("RunTest");

    public static void main(String[] args) {
        settingsAtFirst();
        orderIsOneToEight();
        orderCounts();
        horizonIsUpTo64();
        coarsenessIsUpToTen();
        aStepIs2ToThe20LessTheShift();
        neverProvedTheFirstTime();
        provedTheEighthTimeAtTheLatest();
        provedIfEachLetterLiesWithin();
        widenedByAnEighthOfTheWidthAndOne();
        commonPartOfSeriesAndProvedBox();
        coefficientsUpToTheOrderAndOne();
        beyondWhereABoxIsWidened();
        beyondWhereItIsWidenedTheEighthTime();
        beyondInAValue();
        beyondInACoefficient();
        beyondWhereTheSeriesIsAddedUp();
        aStepMayEndAtTheHorizon();
        aStepThatFailedIsHalved();
        failedWithShift16IsRefused();
        beyondIsNotHalved();
        refusedBehindAHalving();
        refusedChangesNothing();
        shiftGetsLessBehindThreeSteps();
        shiftStaysAtTheCoarseness();
        threeAreCountedAnew();
        growingForTheHorizonCounts();
        signOfABox();
        signIsZeroBeyondTheLimit();
        crossingsLieBetweenTwoBoxes();
        crossingsFromTheFirstBoxOn();
        onlyZerosLieBetween();
        noCrossingWithoutOne();
        bench.end();
    }

    /** Twelve terms that cancel one another: the proof fails with the finest steps, while all numbers stay small. */
    private static String cancelling() {
        StringBuilder tape = new StringBuilder("x=999x^4x^2");
        for (int t = 1; t < 12; t++) {
            tape.append(t % 2 == 0 ? "+" : "-").append("999x^4x^2");
        }
        return tape.append(";").toString();
    }

    // ---- A RUN

    /** "(1 .. 8; 4 at first)", "(0 .. 2^26 units, divisible by 16; 2^20 at first)", "(0 .. 10; 4 at first)" */
    private static void settingsAtFirst() {
        BoxFlow flow = bench.flowOf("x=3x;");
        bench.begin(flow, ONE, ONE + 9);
        bench.due("step(200): the first HORIZON and COARSENESS", flow.step(200), 16);
        bench.dueState("the first HORIZON", flow, ONE, 4, 17, 0, 16, 0);
        for (int order = 3; order <= 5; order++) {
            BoxFlow settled = bench.flowOf("x=3x;", order, ONE, 4, ONE, ONE + 9);
            settled.step(200);
            boolean alike = Bench.look(flow).equals(Bench.look(settled));
            bench.due("ORDER " + order + " is the first one", alike, order == 4);
        }
    }

    private static void orderIsOneToEight() {
        BoxFlow flow = bench.flowOf("x=1;");
        int[] orders = {Integer.MIN_VALUE, -1, 0, 1, 8, 9, Integer.MAX_VALUE};
        for (int order : orders) {
            bench.due("settle(" + order + ", ..)", flow.settle(order, 160, 3), order == 1 || order == 8);
        }
    }

    /** x=x from 1 with one step of 1/2: the rest is of the size of the number behind the last one, and sinks. */
    private static void orderCounts() {
        long last = Long.MAX_VALUE;
        for (int order = 1; order <= 6; order++) {
            BoxFlow flow = bench.flowOf("x=x;", order, ONE / 2, 1, ONE, ONE);
            flow.step(1);
            long width = flow.box(1, 0, 1) - flow.box(1, 0, 0);
            bench.due("a greater ORDER makes a lesser box: " + width + " < " + last, width < last, true);
            boolean holds = flow.box(1, 0, 0) <= 1728810 && flow.box(1, 0, 1) >= 1728811;
            bench.due("the box of ORDER " + order + " holds the root of e", holds, true);
            last = width;
        }
    }

    private static void horizonIsUpTo64() {
        BoxFlow flow = bench.flowOf("x=1;");
        for (int horizon : new int[] {0, 16, 32, ONE - 16, ONE, FAR - 16, FAR}) {
            bench.due("settle(1, " + horizon + ", 0)", flow.settle(1, horizon, 0), true);
        }
        int[] wrong = {-1, 1, 8, 15, 17, 24, 31, -16, -FAR, FAR - 1, FAR - 8, FAR + 1, FAR + 16, Integer.MIN_VALUE,
            Integer.MAX_VALUE, Integer.MAX_VALUE - 15};
        for (int horizon : wrong) {
            bench.due("settle(1, " + horizon + ", 0)", flow.settle(1, horizon, 0), false);
        }
        bench.due("step(200): the farthest HORIZON", flow.step(200), 64);
        bench.dueState("the farthest HORIZON", flow, FAR, 0, 65, 0, 64, 0);
        flow.settle(1, 0, 0);
        bench.due("step(200): the HORIZON 0", flow.step(200), 0);
        bench.dueState("the HORIZON 0", flow, 0, 0, 1, 0, 0, 0);
        flow.settle(1, 16, 0);
        bench.due("step(200): the HORIZON 16", flow.step(200), 1);
        bench.dueState("the HORIZON 16", flow, 16, 16, 2, 0, 1, 0);
    }

    private static void coarsenessIsUpToTen() {
        BoxFlow flow = bench.flowOf("x=1;");
        for (int coarse : new int[] {Integer.MIN_VALUE, -1, 0, 10, 11, 16, Integer.MAX_VALUE}) {
            bench.due("settle(1, 160, " + coarse + ")", flow.settle(1, 160, coarse), coarse == 0 || coarse == 10);
        }
    }

    /** "the SHIFT s: a step is 2^(20 - s) units. It begins with the SHIFT COARSENESS." */
    private static void aStepIs2ToThe20LessTheShift() {
        for (int coarse = 0; coarse <= 10; coarse++) {
            BoxFlow flow = bench.flowOf("x=1;", 1, FAR, coarse);
            bench.dueState("settled", flow, 0, coarse, 1, 0, 0, 0);
            bench.dueStep(flow);
            bench.dueState("one step", flow, 1 << (20 - coarse), coarse, 2, 0, 1, 0);
            bench.dueBox(flow, 1, 0, 1 << (20 - coarse), 1 << (20 - coarse), 0, 1 << (20 - coarse));
            bench.begin(flow, 5, 5);
            bench.dueState("begun", flow, 0, coarse, 1, 0, 0, 0);
        }
    }

    // ---- TO TRY

    /** "If C is not X any more (from the second time on)": J lies within C = 0 at once, but only -1 .. 1 is proved. */
    private static void neverProvedTheFirstTime() {
        BoxFlow flow = bench.flowOf("x=x;", 1, FAR, 0, 0, 0);
        bench.dueStep(flow);
        bench.dueBox(flow, 1, 0, -1, 1, -1, 1);
        bench.dueState("with the first try", flow, ONE, 0, 2, 0, 1, 0);
    }

    /** "Eight times at most": 7/8 needs eight of them, 8/9 would need nine. */
    private static void provedTheEighthTimeAtTheLatest() {
        BoxFlow eight = bench.flowOf("x=7/8x;", 4, FAR, 0, ONE / 64, ONE / 64);
        bench.dueStep(eight);
        bench.dueState("proved the eighth time", eight, ONE, 0, 2, 0, 1, 0);
        BoxFlow nine = bench.flowOf("x=8/9x;", 4, FAR, 0, ONE / 64, ONE / 64);
        bench.dueStep(nine);
        bench.dueState("FAILED once", nine, ONE / 2, 1, 2, 0, 2, 0);
    }

    /** "and each J lies within C": one letter that does is not enough, be it the first or the last. */
    private static void provedIfEachLetterLiesWithin() {
        BoxFlow alone = bench.flowOf("x=x;", 4, FAR, 3, 8000, 8000);
        bench.dueStep(alone);
        int low = alone.box(1, 0, 2);
        int high = alone.box(1, 0, 3);
        // C is up to 9126 the second time, and J up to 9141; then they are 9300 and 9163.
        bench.due("proved the third time", high, 9163);
        BoxFlow first = bench.flowOf("x=x;y=1;", 4, FAR, 3, 8000, 8000, 0, 0);
        bench.dueStep(first);
        bench.due("box(1, 0, 2)", first.box(1, 0, 2), low);
        bench.due("box(1, 0, 3)", first.box(1, 0, 3), high);
        BoxFlow last = bench.flowOf("x=1;y=1;z=z;", 4, FAR, 3, 0, 0, 0, 0, 8000, 8000);
        bench.dueStep(last);
        bench.due("box(1, 2, 2)", last.box(1, 2, 2), low);
        bench.due("box(1, 2, 3)", last.box(1, 2, 3), high);
    }

    /**
     * "W being (the width of what lies between these two ends, before W) / 8 + 1, downwards". From 1500 on, with a step
     * of 1/16, J is up to 1594. The width is 175, and C up to 1616, of which a sixteenth is 101; with a width of 176 it is
     * a little more than that.
     */
    private static void widenedByAnEighthOfTheWidthAndOne() {
        int[][] rows = {
            {1419, 1500, 1419, 1601}, {1418, 1500, 1418, 1602}, {-1500, -1419, -1601, -1419}, {-1500, -1418, -1602, -1418},
        };
        for (int[] r : rows) {
            BoxFlow flow = bench.flowOf("x=x;", 4, FAR, 4, r[0], r[1]);
            bench.dueStep(flow);
            bench.due("PROVED low of " + r[0] + " .. " + r[1], flow.box(1, 0, 2), r[2]);
            bench.due("PROVED high of " + r[0] + " .. " + r[1], flow.box(1, 0, 3), r[3]);
        }
    }

    /** "The new box: what Y and the PROVED box have in common": each end may be the one's or the other's. */
    private static void commonPartOfSeriesAndProvedBox() {
        // Y is 3 .. 10, the PROVED box 4 .. 9.
        dueBoxBehindAStep("x=-x^2;", 2, 5, 9, 4, 9, 4, 9);
        // Y is 7 .. 20, the PROVED box 5 .. 19; then the same below 0.
        dueBoxBehindAStep("x=1/2x;", 5, 5, 9, 7, 19, 5, 19);
        dueBoxBehindAStep("x=1/2x;", 5, -9, -5, -19, -7, -19, -5);
        // Y is 8 .. 16, the PROVED box 5 .. 19 (with a step of 1/2).
        dueBoxBehindAStep("x=x;", 1, 5, 9, 8, 16, 5, 19);
        // Y is a point, the PROVED box all that lies on the way.
        dueBoxBehindAStep("x=1;", 8, 5, 5, ONE + 5, ONE + 5, 5, ONE + 5);
    }

    private static void dueBoxBehindAStep(String tape, int order, int low, int high, int... want) {
        BoxFlow flow = bench.flowOf(tape, order, FAR, 0, low, high);
        bench.dueStep(flow);
        bench.dueBox(flow, 1, 0, want);
    }

    /** "The COEFFICIENTS of X up to number K, of the PROVED box up to number K + 1": number K + 2 may be beyond. */
    private static void coefficientsUpToTheOrderAndOne() {
        // The numbers of x are 4, 4^2, 4^3, 4^4; before OVER the next one is 4 times 4^5.
        BoxFlow flow = bench.flowOf("x=x^2;", 1, FAR, 10, 4 * ONE, 4 * ONE);
        bench.dueNoCoefficient(flow, 0, 4, ArithmeticException.class);
        bench.dueCoefficient(flow, 0, 3, 256 * ONE, 256 * ONE);
        bench.dueStep(flow);
        flow.settle(2, FAR, 10);
        bench.dueStep(flow);
        flow.settle(3, FAR, 10);
        bench.dueRefused(flow, BEYOND);
    }

    // ---- BEYOND: "If an end of any interval that comes up in 1 or 2 is beyond the LIMIT"

    /** C is X and one more on each side at least. */
    private static void beyondWhereABoxIsWidened() {
        BoxFlow flow = bench.flowOf("x=0;", 1, 16, 0);
        for (int sign = -1; sign <= 1; sign += 2) {
            bench.begin(flow, sign * (LIMIT - 1), sign * (LIMIT - 1));
            bench.dueStep(flow);
            bench.dueBox(flow, 1, 0, sign * (LIMIT - 1), sign * (LIMIT - 1));
            bench.begin(flow, sign * LIMIT, sign * LIMIT);
            bench.dueRefused(flow, BEYOND);
            bench.dueState("BEYOND", flow, 0, 0, 1, 2, 1, 0);
        }
        // J is 129 away from the LIMIT, or 128, and W is 129.
        BoxFlow moved = bench.flowOf("x=1;", 1, FAR, 10);
        bench.begin(moved, LIMIT - 1024 - 129, LIMIT - 1024 - 129);
        bench.dueStep(moved);
        bench.begin(moved, LIMIT - 1024 - 128, LIMIT - 1024 - 128);
        bench.dueRefused(moved, BEYOND);
    }

    /** "(C becoming greater the eighth time, too)": that one alone goes beyond, or none does and the step FAILED. */
    private static void beyondWhereItIsWidenedTheEighthTime() {
        String tape = "x=1/2x-1/2x+1/2x-1/2x+1/2x-1/2x+1/2x-1/2x+1/2x-1/2x;";
        for (int sign = -1; sign <= 1; sign += 2) {
            BoxFlow flow = bench.flowOf(tape, 1, ONE, 2, sign * (LIMIT - 145), sign * (LIMIT - 145));
            bench.dueRefused(flow, BEYOND);
            bench.dueState("BEYOND with the first try", flow, 0, 2, 1, 2, 1, 0);
            bench.begin(flow, sign * (LIMIT - 147), sign * (LIMIT - 147));
            bench.dueStep(flow);
            bench.dueState("FAILED with the first try", flow, ONE / 8, 3, 2, 0, 2, 0);
        }
    }

    /** The VALUE of x's SIDE over C is y's and 10592 more; C is y and one more. */
    private static void beyondInAValue() {
        String tape = "x=y+1/99;y=0;";
        int last = LIMIT - 1 - 10592;
        BoxFlow flow = bench.flowOf(tape, 1, FAR, 10, 0, 0, last, last);
        bench.dueStep(flow);
        bench.begin(flow, 0, 0, last + 1, last + 1);
        bench.dueRefused(flow, BEYOND);
        BoxFlow below = bench.flowOf("x=y-1/99;y=0;", 1, FAR, 10, 0, 0, -last, -last);
        bench.dueStep(below);
        bench.begin(below, 0, 0, -last - 1, -last - 1);
        bench.dueRefused(below, BEYOND);
    }

    /** Number K of x^2 over the PROVED box, before OVER, is at the LIMIT or beyond it. */
    private static void beyondInACoefficient() {
        int[] last = {0, 8322963, 4488135, 3169270};
        for (int order = 1; order <= 3; order++) {
            BoxFlow flow = bench.flowOf("x=x^2;", order, ONE, 10, last[order], last[order]);
            bench.dueStep(flow);
            bench.begin(flow, last[order] + 1, last[order] + 1);
            bench.dueRefused(flow, BEYOND);
            bench.dueState("BEYOND", flow, 0, 10, 1, 2, 1, 0);
        }
    }

    /** With a box of y about 0 all numbers of x are -1 .. 1; Y grows by one with each, beyond the PROVED box. */
    private static void beyondWhereTheSeriesIsAddedUp() {
        String tape = "x=y^2;y=y^2;";
        for (int order = 2; order <= 8; order++) {
            int last = LIMIT - order - 1;
            BoxFlow flow = bench.flowOf(tape, order, FAR, 0, last, last, -1, 1);
            bench.dueStep(flow);
            bench.dueBox(flow, 1, 0, last - 1, last + 1, last - 1, last + 1);
            bench.begin(flow, last + 1, last + 1);
            bench.dueRefused(flow, BEYOND);
            bench.begin(flow, -last, -last);
            bench.dueStep(flow);
            bench.begin(flow, -last - 1, -last - 1);
            bench.dueRefused(flow, BEYOND);
        }
    }

    // ---- A STEP

    /** "if the time and h are more than the HORIZON, the SHIFT grows by 1 until they are not" */
    private static void aStepMayEndAtTheHorizon() {
        BoxFlow flow = bench.flowOf("x=1;", 2, ONE, 0);
        bench.due("step(200) that ends there", flow.step(200), 1);
        bench.dueState("not more than the HORIZON", flow, ONE, 0, 2, 0, 1, 0);
        flow.settle(2, ONE + 16, 0);
        bench.due("step(200): 1 and a finest step", flow.step(200), 2);
        bench.dueState("grown to 16 at once", flow, ONE + 16, 16, 3, 0, 2, 0);
        bench.dueBox(flow, 1, 3, ONE, 0);
        flow.settle(2, ONE - 16, 0);
        bench.due("step(200): a step of each SHIFT from 1 on", flow.step(200), 16);
        bench.dueState("grown to 16 by ones", flow, ONE - 16, 16, 17, 0, 16, 0);
        for (int i = 1; i <= 16; i++) {
            bench.dueBox(flow, i, 3, ONE - (ONE >> i), 0);
        }
    }

    /** "if it FAILED, and the SHIFT is below 16, it grows by 1, and it is TRIED again, and so on" */
    private static void aStepThatFailedIsHalved() {
        int[][] rows = {{678576, 13, 1}, {779576, 14, 2}, {835576, 15, 3}};
        for (int[] r : rows) {
            BoxFlow flow = bench.flowOf(cancelling(), 1, 128, 10, r[0] - 10000, r[0] - 10000);
            bench.dueStep(flow);
            bench.dueState("halved from " + r[0], flow, 1 << (20 - r[1]), r[1], 2, 0, r[2], 0);
        }
    }

    /** "If it FAILED with 16 .. : REFUSED; nothing is changed (nor the SHIFT)." */
    private static void failedWithShift16IsRefused() {
        BoxFlow one = bench.flowOf(cancelling(), 1, 16, 0, ONE, ONE);
        bench.dueRefused(one, FAILED);
        bench.dueState("FAILED with 16 at once", one, 0, 0, 1, 1, 1, 0);
        bench.dueRefused(one, FAILED);
        bench.dueState("FAILED again", one, 0, 0, 1, 1, 2, 0);
        BoxFlow two = bench.flowOf(cancelling(), 1, 32, 10, ONE - 10000, ONE - 10000);
        bench.dueRefused(two, FAILED);
        bench.dueState("FAILED with 15 and 16", two, 0, 10, 1, 1, 2, 0);
    }

    /** "or was BEYOND: REFUSED": also if a shorter step would do. */
    private static void beyondIsNotHalved() {
        BoxFlow flow = bench.flowOf("x=999;", 4, FAR, 0, ONE, ONE);
        bench.dueRefused(flow, BEYOND);
        bench.dueState("BEYOND", flow, 0, 0, 1, 2, 1, 0);
        flow.settle(4, FAR, 1);
        bench.dueStep(flow);
        bench.dueState("with a shorter step", flow, ONE / 2, 1, 2, 0, 1, 0);
    }

    /** FAILED with 15, then BEYOND with 16: the SHIFT that has grown for the HORIZON and the proof is as it was. */
    private static void refusedBehindAHalving() {
        BoxFlow flow = bench.flowOf(cancelling(), 1, 32, 3, ONE - 20000, ONE - 20000);
        bench.dueRefused(flow, BEYOND);
        bench.dueState("BEYOND", flow, 0, 3, 1, 2, 2, 0);
        bench.dueBox(flow, 0, 0, ONE - 20000, ONE - 20000, ONE - 20000, ONE - 20000);
        bench.dueNoBox(flow, 1, 0, 0);
    }

    private static void refusedChangesNothing() {
        BoxFlow refused = bench.flowOf("x=999;g=x-300;", 3, FAR, 2, 5, 9);
        BoxFlow other = bench.flowOf("x=999;g=x-300;", 3, FAR, 2, 5, 9);
        bench.due("step(3)", refused.step(3), 3);
        bench.due("step(3)", other.step(3), 3);
        for (int time = 0; time < 2; time++) {
            bench.dueRefused(refused, BEYOND);
            bench.due("state(4): TRIES of a REFUSED step, too", refused.state(4), other.state(4) + time + 1);
            bench.due("all but why and the TRIES", Bench.lookAtRun(refused, 0, 1, 2, 5),
                Bench.lookAtRun(other, 0, 1, 2, 5));
        }
        bench.begin(refused, 6, 6);
        bench.begin(other, 6, 6);
        refused.step(3);
        other.step(3);
        bench.dueAlike("begun anew", refused, other);
    }

    /** The SHIFT behind each step and the TRIES until then. */
    private static void dueShifts(BoxFlow flow, int[] tries, int[] shifts) {
        for (int i = 0; i < shifts.length; i++) {
            bench.dueStep(flow);
            bench.due("state(4) behind step " + i, flow.state(4), tries[i]);
            bench.due("state(1) behind step " + i, flow.state(1), shifts[i]);
        }
    }

    /** "Behind three steps in a row without a growing of the SHIFT it gets less by 1" */
    private static void shiftGetsLessBehindThreeSteps() {
        BoxFlow flow = bench.flowOf("x=3-3x;", 4, FAR, 1, ONE, ONE);
        dueShifts(flow, new int[] {2, 3, 4, 5, 7, 8, 9, 10, 12}, new int[] {2, 2, 2, 1, 2, 2, 2, 1, 2});
    }

    /** "if it is above the COARSENESS": 1, at which it stays. */
    private static void shiftStaysAtTheCoarseness() {
        BoxFlow flow = bench.flowOf("x=-x;y=-xy;", 4, FAR, 1, 4 * ONE, 4 * ONE, ONE / 16, ONE / 16);
        dueShifts(flow, new int[] {3, 4, 5, 6, 7, 8, 9, 10, 11, 12, 13, 14, 15},
            new int[] {3, 3, 3, 2, 2, 2, 1, 1, 1, 1, 1, 1, 1});
        BoxFlow calm = bench.flowOf("x=1;", 4, FAR, 10);
        bench.due("step(20)", calm.step(20), 20);
        bench.dueState("never above the COARSENESS", calm, 20 * 1024, 10, 21, 0, 20, 0);
    }

    /** "(and three are counted anew)": behind a growing too, with which two steps in a row have ended. */
    private static void threeAreCountedAnew() {
        BoxFlow flow = bench.flowOf("x=x;y=-xy;", 4, FAR, 1, ONE, ONE, ONE, ONE);
        dueShifts(flow, new int[] {2, 3, 4, 6, 7, 8, 9, 11}, new int[] {2, 2, 2, 3, 3, 3, 2, 3});
        // A run that begins anew counts anew.
        bench.begin(flow, ONE, ONE);
        dueShifts(flow, new int[] {2, 3, 4}, new int[] {2, 2, 2});
        bench.begin(flow, ONE, ONE);
        dueShifts(flow, new int[] {2, 3, 4, 6, 7, 8, 9, 11}, new int[] {2, 2, 2, 3, 3, 3, 2, 3});
    }

    /** The third step in a row has the SHIFT grow for the HORIZON: it does not get less behind it. */
    private static void growingForTheHorizonCounts() {
        BoxFlow flow = bench.flowOf("x=1;", 4, 2 * ONE + 16, 0);
        bench.due("step(3)", flow.step(3), 3);
        bench.dueState("grown for the HORIZON", flow, 2 * ONE + 16, 16, 4, 0, 3, 0);
    }

    // ---- CROSSINGS

    /** "1 if low is above 0, -1 if high is below 0, else 0" */
    private static void signOfABox() {
        BoxFlow flow = bench.flowOf("x=0;g=x;");
        int[][] rows = {{1, 5, 1}, {0, 5, 0}, {-1, 5, 0}, {-5, 1, 0}, {-5, 0, 0}, {-5, -1, -1}, {0, 0, 0}, {1, 1, 1},
            {-1, -1, -1}, {LIMIT, LIMIT, 1}, {-LIMIT, -LIMIT, -1}, {-LIMIT, LIMIT, 0}};
        for (int[] r : rows) {
            bench.begin(flow, r[0], r[1]);
            bench.due("sign over " + r[0] + " .. " + r[1], flow.box(0, 3, 1), r[2]);
        }
    }

    /** "(also if a number that comes up is beyond the LIMIT)" */
    private static void signIsZeroBeyondTheLimit() {
        String[] tapes = {"g=x;", "g=-x;", "g=x^2;", "g=-x^2;", "g=x+1/99;", "g=x+0;", "g=x+x-x;", "g=x-x+x;", "g=1+x-x;",
            "g=x-x+1;", "g=1/32x;", "g=2x;"};
        int[] signs = {1, -1, 0, 0, 0, 1, 0, 1, 0, 1, 1, 0};
        for (int i = 0; i < tapes.length; i++) {
            BoxFlow flow = bench.flowOf("x=0;" + tapes[i]);
            bench.begin(flow, LIMIT, LIMIT);
            bench.due("sign of " + tapes[i], flow.box(0, 3, 1), signs[i]);
            bench.begin(flow, 0, 0);
        }
        BoxFlow square = bench.flowOf("x=0;g=x^2;");
        bench.begin(square, 32 * ONE, 32 * ONE);
        bench.due("sign of a square at the LIMIT", square.box(0, 3, 1), 1);
        bench.begin(square, 32 * ONE, 32 * ONE + 1);
        bench.due("sign of a square beyond the LIMIT", square.box(0, 3, 1), 0);
        // What is beyond on the way counts, though the last letter brings it back.
        BoxFlow product = bench.flowOf("x=0;y=0;g=x^2y;");
        bench.begin(product, 32 * ONE, 32 * ONE, 1024, 1024);
        bench.due("sign of a product with the LIMIT", product.box(0, 3, 1), 1);
        bench.begin(product, 32 * ONE, 32 * ONE + 1);
        bench.due("sign of a product with more", product.box(0, 3, 1), 0);
        // Such a 0 is passed over as any other: x is 31, 31.5, 32, 32.5, and g is beyond from 32.5 on.
        BoxFlow flow = bench.flowOf("x=1;g=x^2-999;", 2, FAR, 1, 31 * ONE, 31 * ONE);
        bench.due("step(3)", flow.step(3), 3);
        int[] due = {-1, -1, 1, 0};
        for (int i = 0; i < due.length; i++) {
            bench.due("sign of box " + i, flow.box(i, 3, 1), due[i]);
        }
        bench.due("state(5)", flow.state(5), 1);
        bench.dueCrossing(flow, 0, 1, 2, 1);
    }

    /** "One lies between two boxes, of which the later is 1 and the earlier one -1, or the other way round" */
    private static void crossingsLieBetweenTwoBoxes() {
        BoxFlow flow = bench.flowOf("x=1;g=-x^2+x-2/9;", 4, ONE, 4);
        bench.due("step(200)", flow.step(200), 16);
        bench.due("state(5)", flow.state(5), 2);
        bench.dueCrossing(flow, 0, 5, 6, 1);
        bench.dueCrossing(flow, 1, 10, 11, -1);
    }

    /** "with each box (also the first one)" */
    private static void crossingsFromTheFirstBoxOn() {
        BoxFlow flow = bench.flowOf("x=1;g=x-1/16;", 4, ONE, 2);
        bench.due("state(5): none at first", flow.state(5), 0);
        bench.dueStep(flow);
        bench.due("state(5)", flow.state(5), 1);
        bench.dueCrossing(flow, 0, 0, 1, 1);
        bench.begin(flow, ONE / 16, ONE / 16);
        bench.dueStep(flow);
        bench.due("state(5): none from a box of sign 0 on", flow.state(5), 0);
        bench.begin(flow, ONE / 8, ONE / 8);
        bench.dueStep(flow);
        bench.due("state(5): none from a box of sign 1 on", flow.state(5), 0);
    }

    /** "all between them (if any) being 0" */
    private static void onlyZerosLieBetween() {
        BoxFlow flow = bench.flowOf("x=1;g=x-1/2;", 4, ONE, 3);
        flow.step(8);
        bench.due("state(5)", flow.state(5), 1);
        bench.dueCrossing(flow, 0, 3, 5, 1);
        bench.dueBox(flow, 4, 3, ONE / 2, 0);
        bench.begin(flow, 0, ONE / 4);
        flow.step(8);
        bench.due("state(5)", flow.state(5), 1);
        bench.dueCrossing(flow, 0, 1, 5, 1);
        // Touching 0 and turning back is none; nor is going from 1 to 1 by 0.
        BoxFlow back = bench.flowOf("x=1;g=x^2-x+1/4;", 4, ONE, 3);
        back.step(8);
        bench.dueBox(back, 4, 3, ONE / 2, 0);
        bench.dueBox(back, 5, 3, 5 * ONE / 8, 1);
        bench.due("state(5)", back.state(5), 0);
        // Zeros at the end are none yet.
        BoxFlow open = bench.flowOf("x=1;g=x-1/2;", 4, ONE / 2, 3);
        open.step(8);
        bench.dueBox(open, 4, 3, ONE / 2, 0);
        bench.due("state(5)", open.state(5), 0);
    }

    private static void noCrossingWithoutOne() {
        BoxFlow flow = bench.flowOf("x=1;", 4, ONE, 3, -ONE / 2, -ONE / 2);
        flow.step(8);
        for (int i = 0; i <= 8; i++) {
            bench.due("sign of box " + i, flow.box(i, 3, 1), 0);
        }
        bench.due("state(5)", flow.state(5), 0);
        bench.dueNoCrossing(flow, 0, 0);
    }
}
