import java.util.Random;
import java.util.function.LongSupplier;

/** Promises 1 to 11: runs of calls that a fixed seed draws, each answer compared with the model's. */
public final class ModelTest {
    private static final int ONE = 1 << 20;
    private static final Check check = new Check("ModelTest");
    private static final Random draw = new Random(20261115);

    private static BoxFlow flow;
    private static Model model;
    private static int run;
    private static int calls;

    public static void main(String[] args) {
        for (run = 0; run < 2500; run++) {
            newObjects();
            oneRun();
        }
        runsThatFail();
        runsWidenedToTheLimit();
        faultsOfManyTapes();
        System.out.println("ModelTest: the SHIFT grew " + Model.grown + " times, got less " + Model.lessened + " times, "
            + Model.failures + " steps FAILED, " + Model.beyonds + " were BEYOND");
        check.due("some steps had the SHIFT grow", Model.grown > 100, true);
        check.due("some steps had the SHIFT get less", Model.lessened > 100, true);
        check.due("some steps FAILED", Model.failures > 3, true);
        check.due("some steps were BEYOND", Model.beyonds > 100, true);
        check.end();
    }

    private static void newObjects() {
        flow = new BoxFlow();
        model = new Model();
        calls = 0;
    }

    private static void oneRun() {
        lookAround();
        int problems = 1 + draw.nextInt(3);
        for (int p = 0; p < problems; p++) {
            typeAndCompile(draw.nextInt(5) == 0 ? spoilt(problem()) : problem());
            int turns = 1 + draw.nextInt(4);
            for (int t = 0; t < turns; t++) {
                begins();
                settles();
                steps();
                lookAround();
            }
        }
    }

    private static void begins() {
        for (int v = -1; v < 4; v++) {
            if (draw.nextInt(3) == 0) {
                continue;
            }
            int size = draw.nextInt(20) == 0 ? 1 << 30 : draw.nextInt(6) == 0 ? 8 * ONE : 5 * ONE / 4;
            int low = draw.nextInt(20) == 0 ? draw.nextInt() : draw.nextInt(2 * size - 1) - size;
            int high = low + new int[] {0, 0, 1, 1000, 100000, -1}[draw.nextInt(6)];
            int letter = v;
            same("begin(" + v + ", " + low + ", " + high + ")",
                () -> flow.begin(letter, low, high) ? 1 : 0, () -> model.begin(letter, low, high) ? 1 : 0);
        }
    }

    private static void settles() {
        int order = draw.nextInt(10);
        int[] horizons = {16 * draw.nextInt(3), 16 * draw.nextInt(200), draw.nextInt()};
        int horizon = draw.nextInt(3) == 0 ? horizons[draw.nextInt(3)] : 16 * draw.nextInt(3 * ONE / 16);
        int coarse = draw.nextInt(13) - 1;
        same("settle(" + order + ", " + horizon + ", " + coarse + ")",
            () -> flow.settle(order, horizon, coarse) ? 1 : 0, () -> model.settle(order, horizon, coarse) ? 1 : 0);
    }

    private static void steps() {
        int calls = 1 + draw.nextInt(3);
        for (int i = 0; i < calls; i++) {
            int n = draw.nextInt(14) == 0 ? 1 - draw.nextInt(3) : 1 + draw.nextInt(draw.nextInt(4) == 0 ? 40 : 8);
            same("step(" + n + ")", () -> flow.step(n), () -> model.step(n));
            lookAtState();
        }
    }

    private static void lookAtState() {
        for (int w = -1; w <= 6; w++) {
            int what = w;
            same("state(" + what + ")", () -> flow.state(what), () -> model.state(what));
        }
    }

    private static void lookAround() {
        lookAtState();
        same("fault()", () -> flow.fault(), () -> model.fault);
        for (int k = 0; k < 2; k++) {
            int i = draw.nextInt(4) == 0 ? draw.nextInt(30) - 1 : model.marks.size() - draw.nextInt(3);
            for (int v = -1; v <= 4; v++) {
                for (int w = -1; w <= 4; w++) {
                    int letter = v;
                    int what = w;
                    same("box(" + i + ", " + v + ", " + w + ")",
                        () -> flow.box(i, letter, what), () -> model.box(i, letter, what));
                }
            }
        }
        for (int i = model.crosses.size(); i >= Math.max(-1, model.crosses.size() - 3); i--) {
            for (int w = -1; w <= 3; w++) {
                int number = i;
                int what = w;
                same("crossing(" + i + ", " + w + ")",
                    () -> flow.crossing(number, what), () -> model.crossing(number, what));
            }
        }
        for (int n = 0; n < 8; n++) {
            int v = draw.nextInt(4 + model.sides.size()) % (model.sides.size() + 1);
            int k = draw.nextInt(20) == 0 ? draw.nextInt(14) - 2 : draw.nextInt(10);
            boolean high = draw.nextBoolean();
            same("coefficient(" + v + ", " + k + ", " + high + ")",
                () -> flow.coefficient(v, k, high), () -> model.coefficient(v, k, high));
        }
    }

    private static void typeAndCompile(String tape) {
        for (int i = 0; i < tape.length();) {
            int n = Math.min(1 + draw.nextInt(8), tape.length() - i);
            long word = draw.nextLong();
            for (int j = 0; j < n; j++, i++) {
                word = word << 8 | tape.charAt(i);
            }
            long typed = word;
            same("type(" + word + ", " + n + ")",
                () -> flow.type(typed, n) ? 1 : 0, () -> model.type(typed, n) ? 1 : 0);
        }
        same("compile() of " + tape, () -> flow.compile(), () -> model.compile());
        same("fault() of " + tape, () -> flow.fault(), () -> model.fault);
    }

    /** Only with the finest step can a proof fail for good: with a coarser one it is halved, or goes beyond. */
    private static void runsThatFail() {
        for (int i = 0; i < 200; i++) {
            newObjects();
            typeAndCompile(cancelling(700 + draw.nextInt(300), 3));
            int low = ONE - draw.nextInt(ONE / 40);
            int high = low + draw.nextInt(20);
            int horizon = 16 + 16 * draw.nextInt(4);
            same("begin(0, " + low + ", " + high + ")",
                () -> flow.begin(0, low, high) ? 1 : 0, () -> model.begin(0, low, high) ? 1 : 0);
            same("settle(2, " + horizon + ", 9)",
                () -> flow.settle(2, horizon, 9) ? 1 : 0, () -> model.settle(2, horizon, 9) ? 1 : 0);
            steps();
            lookAround();
        }
    }

    /** Near the LIMIT the eighth widening alone goes beyond: that is BEYOND, though the proof has failed as well. */
    private static void runsWidenedToTheLimit() {
        for (int room = 0; room < 6000; room += 40) {
            newObjects();
            typeAndCompile("x=1/2x-1/2x+1/2x-1/2x+1/2x-1/2x+1/2x-1/2x+1/2x-1/2x;");
            int end = ((1 << 30) - room) * (room % 80 == 0 ? 1 : -1);
            same("settle", () -> flow.settle(1, ONE, 2) ? 1 : 0, () -> model.settle(1, ONE, 2) ? 1 : 0);
            same("begin at " + end, () -> flow.begin(0, end, end) ? 1 : 0, () -> model.begin(0, end, end) ? 1 : 0);
            same("step(1)", () -> flow.step(1), () -> model.step(1));
            lookAtState();
        }
    }

    private static void faultsOfManyTapes() {
        for (int i = 0; i < 6000; i++) {
            newObjects();
            String tape = problem();
            int times = draw.nextInt(3);
            for (int t = 0; t <= times; t++) {
                tape = spoilt(tape);
            }
            typeAndCompile(tape);
        }
    }

    private static String spoilt(String tape) {
        int at = draw.nextInt(tape.length() + 1);
        String some = "xyzxyzg=;+-/^0123456789q".substring(draw.nextInt(24)).substring(0, 1);
        switch (draw.nextInt(4)) {
            case 0:
                return tape.substring(0, at) + some + tape.substring(at);
            case 1:
                return tape.substring(0, at) + tape.substring(Math.min(tape.length(), at + 1));
            case 2:
                return tape.substring(0, at) + some + tape.substring(Math.min(tape.length(), at + 1));
            default:
                return tape.substring(0, at);
        }
    }

    private static String problem() {
        if (draw.nextInt(8) == 0) {
            return cancelling(1 + draw.nextInt(999), 1 + draw.nextInt(3));
        }
        int sides = 1 + draw.nextInt(3);
        int manyTerms = draw.nextInt(12) == 0 ? 13 : 4;
        int strong = draw.nextInt(3);
        StringBuilder text = new StringBuilder();
        for (int v = 0; v < sides; v++) {
            text.append("xyz".charAt(v)).append('=').append(polynomial(sides, manyTerms, strong)).append(';');
        }
        if (draw.nextInt(4) != 0) {
            text.append("g=").append(polynomial(sides, 4, 0)).append(';');
        }
        return text.toString();
    }

    /** Terms that nearly cancel one another make a box grow faster than its proof, while all numbers stay small. */
    private static String cancelling(int number, int power) {
        StringBuilder text = new StringBuilder("x=");
        for (int t = 0; t < 12; t++) {
            text.append(t == 0 ? "" : t % 2 == 0 ? "+" : "-").append(number).append("x^3x^").append(power);
        }
        return text.append(";g=x-1;").toString();
    }

    private static String polynomial(int sides, int manyTerms, int strong) {
        StringBuilder text = new StringBuilder(draw.nextInt(3) == 0 ? "-" : "");
        int terms = 1 + draw.nextInt(manyTerms);
        for (int t = 0; t < terms; t++) {
            text.append(t == 0 ? "" : draw.nextBoolean() ? "+" : "-");
            boolean numbered = draw.nextBoolean();
            if (numbered) {
                text.append(draw.nextInt(strong == 2 ? 1000 : 3));
                text.append(draw.nextInt(3) == 0 ? "" : "/" + (1 + draw.nextInt(99)));
            }
            int factors = draw.nextInt(strong == 0 ? 3 : 4);
            for (int f = numbered ? 1 : 0; f <= factors; f++) {
                text.append("xyz".charAt(draw.nextInt(30) == 0 ? draw.nextInt(3) : draw.nextInt(sides)));
                text.append(draw.nextInt(4) == 0 ? "^" + (1 + draw.nextInt(draw.nextInt(10) == 0 ? 6 : 3)) : "");
            }
        }
        return text.toString();
    }

    /** What an object answers behind its 512th call is free. */
    private static void same(String call, LongSupplier program, LongSupplier asked) {
        if (calls == 512) {
            return;
        }
        calls++;
        check.due("run " + run + ": " + call, answer(program), answer(asked));
    }

    /** Exceptions count as numbers that no call answers. */
    private static long answer(LongSupplier call) {
        try {
            return call.getAsLong();
        } catch (IllegalStateException e) {
            return 1L << 40;
        } catch (IllegalArgumentException e) {
            return 2L << 40;
        } catch (IndexOutOfBoundsException e) {
            return 3L << 40;
        } catch (ArithmeticException e) {
            return 4L << 40;
        }
    }
}
