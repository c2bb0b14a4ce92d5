/**
 * "Boxes that are sure to hold all solutions of polynomial differential equations from a box on": problems whose
 * solutions are known, from several points of the first box on. Each box holds them at its time, the PROVED box during
 * its step, and where a sign of the CROSSING is told, it is theirs.
 */
public final class SolutionTest {
    private static final int ONE = Bench.ONE;
    /** What doubles may be wrong by, in units. */
    private static final double SLACK = 0.01;
    private static final int PARTS = 4;
    private static final Bench bench = new Bench("SolutionTest");

    private interface Solution {
        double[] at(double t, double[] first);
    }

    private interface Crossed {
        double over(double[] values);
    }

    public static void main(String[] args) {
        hold("x=y;y=-x;g=x-y;", 4 * ONE, new int[] {-20, 30, ONE, ONE + 100}, SolutionTest::turned, p -> p[0] - p[1]);
        hold("x=x;g=x-2;", 2 * ONE, new int[] {ONE - 50, ONE + 50}, (t, first) ->
            new double[] {first[0] * Math.exp(t)}, p -> p[0] - 2);
        hold("x=-3x;g=1/2-x;", ONE, new int[] {-ONE, ONE}, (t, first) ->
            new double[] {first[0] * Math.exp(-3 * t)}, p -> 0.5 - p[0]);
        hold("x=x^2;g=x^2-2/3;", ONE, new int[] {ONE / 2, ONE / 2 + 9}, (t, first) ->
            new double[] {first[0] / (1 - first[0] * t)}, p -> p[0] * p[0] - 2.0 / 3);
        hold("x=x-x^2;g=1-2x;", 3 * ONE, new int[] {ONE / 8, ONE / 8 + 1000}, SolutionTest::grown, p -> 1 - 2 * p[0]);
        hold("x=xy;y=1;g=xy;", ONE, new int[] {ONE, ONE + 7, -ONE / 2, -ONE / 2}, (t, first) ->
            new double[] {first[0] * Math.exp(t * t / 2 + first[1] * t), first[1] + t}, p -> p[0] * p[1]);
        hold("x=y;y=z;z=-1/3;g=x-1/9;", 2 * ONE, new int[] {-3, 3, 0, ONE / 16, ONE / 2, ONE / 2},
            SolutionTest::thrown, p -> p[0] - 1.0 / 9);
        hold("x=1/2x-1/2x;g=-x;", ONE, new int[] {ONE, 2 * ONE}, (t, first) -> first, p -> -p[0]);
        bench.end();
    }

    private static double[] turned(double t, double[] first) {
        return new double[] {first[0] * Math.cos(t) + first[1] * Math.sin(t), first[1] * Math.cos(t) - first[0] * Math.sin(t)};
    }

    private static double[] grown(double t, double[] first) {
        return new double[] {1 / (1 + (1 / first[0] - 1) * Math.exp(-t))};
    }

    private static double[] thrown(double t, double[] first) {
        double z = first[2] - t / 3;
        double y = first[1] + first[2] * t - t * t / 6;
        return new double[] {first[0] + first[1] * t + first[2] * t * t / 2 - t * t * t / 18, y, z};
    }

    /** With each ORDER and some COARSENESSES; where the boxes grow until a step is REFUSED, those ahead of it count. */
    private static void hold(String tape, int horizon, int[] ends, Solution solution, Crossed crossed) {
        for (int order = 1; order <= 8; order++) {
            for (int coarse = 2; coarse <= 6; coarse += 2) {
                BoxFlow flow = bench.flowOf(tape, order, horizon, coarse, ends);
                Bench.answer(() -> flow.step(30));
                int done = flow.state(2) - 1;
                String what = tape + " ORDER " + order + " COARSENESS " + coarse;
                bench.due(what + ": steps", done > 2, true);
                for (int i = 1; i <= done; i++) {
                    holdsStep(what + " box " + i, flow, i, ends, solution);
                    holdsSign(what + " box " + i, flow, i, ends, solution, crossed);
                }
            }
        }
    }

    private static void holdsStep(String what, BoxFlow flow, int i, int[] ends, Solution solution) {
        int[][] box = new int[ends.length / 2][4];
        for (int v = 0; v < box.length; v++) {
            for (int end = 0; end < 4; end++) {
                box[v][end] = flow.box(i, v, end);
            }
        }
        double start = timeOf(flow, i - 1);
        double time = timeOf(flow, i);
        for (int corner = 0; corner < 1 << box.length; corner++) {
            double[] first = cornerOf(ends, corner);
            for (int part = 0; part <= PARTS; part++) {
                holds(what + " PROVED", box, 2, solution.at(start + (time - start) * part / PARTS, first));
            }
            holds(what, box, 0, solution.at(time, first));
        }
    }

    private static void holdsSign(String what, BoxFlow flow, int i, int[] ends, Solution solution, Crossed crossed) {
        int sign = flow.box(i, 3, 1);
        double time = timeOf(flow, i);
        for (int corner = 0; corner < 1 << ends.length / 2; corner++) {
            double value = crossed.over(solution.at(time, cornerOf(ends, corner)));
            bench.due(what + ": sign " + sign + " of " + value, value * sign > 0 || sign == 0, true);
        }
    }

    private static double timeOf(BoxFlow flow, int i) {
        return flow.box(i, 3, 0) / (double) ONE;
    }

    private static double[] cornerOf(int[] ends, int corner) {
        double[] first = new double[ends.length / 2];
        for (int v = 0; v < first.length; v++) {
            first[v] = ends[2 * v + (corner >> v & 1)] / (double) ONE;
        }
        return first;
    }

    private static void holds(String what, int[][] box, int end, double[] values) {
        for (int v = 0; v < box.length; v++) {
            double units = values[v] * ONE;
            boolean within = box[v][end] <= units + SLACK && units - SLACK <= box[v][end + 1];
            bench.due(what + ", letter " + v + ": " + units + " in " + box[v][end] + " .. " + box[v][end + 1], within, true);
        }
    }
}
