import java.math.BigInteger;
import java.util.ArrayList;
import java.util.List;
import java.util.regex.Matcher;
import java.util.regex.Pattern;

/**
 * A second BoxFlow, written from the document alone and as slowly as it reads: big numbers, whole series made anew for
 * every number, faults found by trying all beginnings of the tape. ModelTest compares the two call by call.
 */
final class Model {
    /** An interval; making one beyond the LIMIT throws Beyond. */
    record Span(BigInteger low, BigInteger high) {
        static final BigInteger LIMIT = BigInteger.TWO.pow(30);
        static final BigInteger UNIT = BigInteger.TWO.pow(20);

        Span {
            if (low.abs().compareTo(LIMIT) > 0 || high.abs().compareTo(LIMIT) > 0) {
                throw new Beyond();
            }
        }

        static Span of(long low, long high) {
            return new Span(BigInteger.valueOf(low), BigInteger.valueOf(high));
        }

        Span sum(Span other) {
            return new Span(low.add(other.low), high.add(other.high));
        }

        Span times(Span other) {
            List<BigInteger> products = List.of(low.multiply(other.low), low.multiply(other.high),
                high.multiply(other.low), high.multiply(other.high));
            BigInteger least = products.stream().min(BigInteger::compareTo).get();
            BigInteger greatest = products.stream().max(BigInteger::compareTo).get();
            return new Span(down(least, UNIT), up(greatest, UNIT));
        }

        Span over(int n) {
            return new Span(down(low, BigInteger.valueOf(n)), up(high, BigInteger.valueOf(n)));
        }

        boolean within(Span other) {
            return low.compareTo(other.low) >= 0 && high.compareTo(other.high) <= 0;
        }

        static BigInteger down(BigInteger a, BigInteger b) {
            BigInteger[] parts = a.divideAndRemainder(b);
            return parts[1].signum() < 0 ? parts[0].subtract(BigInteger.ONE) : parts[0];
        }

        static BigInteger up(BigInteger a, BigInteger b) {
            BigInteger[] parts = a.divideAndRemainder(b);
            return parts[1].signum() > 0 ? parts[0].add(BigInteger.ONE) : parts[0];
        }
    }

    static final class Beyond extends RuntimeException {
        private static final long serialVersionUID = 1L;
    }

    record Term(Span number, List<Integer> letters) { }

    record Mark(List<Span> box, List<Span> proved, int time, int sign) { }

    record Cross(int earlier, int later, int sign) { }

    static final Span ZERO = Span.of(0, 0);

    StringBuilder tape = new StringBuilder();
    int fault = -1;
    List<List<Term>> sides = new ArrayList<>();
    List<Term> crossing = null;
    List<Span> first = new ArrayList<>();
    int order = 4;
    int horizon = 1 << 20;
    int coarseness = 4;
    int time;
    int shift = 4;
    int inARow;
    int refused;
    int tries;
    List<Mark> marks = new ArrayList<>();
    List<Cross> crosses = new ArrayList<>();

    // What the runs of a test have met, so that the test can tell if it has looked at everything.
    static int grown;
    static int lessened;
    static int failures;
    static int beyonds;

    // ---- the tape

    boolean type(long word, int n) {
        if (n < 1 || n > 8 || tape.length() + n > 240) {
            return false;
        }
        StringBuilder more = new StringBuilder();
        for (int i = 0; i < n; i++) {
            long c = word >> (8 * (n - 1 - i)) & 0xff;
            if (c < 33 || c > 126) {
                return false;
            }
            more.append((char) c);
        }
        tape.append(more);
        return true;
    }

    private static final String NUMBER = "[0-9]{1,3}(?:/[0-9]{1,2})?";
    private static final String FACTOR = "[xyz](?:\\^[1-4])?";
    private static final String TERM = "(?:" + NUMBER + "(?:" + FACTOR + ")*|(?:" + FACTOR + ")+)";
    private static final String POLYNOMIAL = "-?" + TERM + "(?:[+-]" + TERM + ")*;";
    private static final Pattern PROBLEM = Pattern.compile("x=" + POLYNOMIAL + "(?:y=" + POLYNOMIAL + "(?:z=" + POLYNOMIAL
        + ")?)?(?:g=" + POLYNOMIAL + ")?");

    static int faultOf(String text) {
        int place = text.length();
        for (int p = 1; p <= text.length(); p++) {
            Matcher m = PROBLEM.matcher(text.substring(0, p));
            if (!m.matches() && !m.hitEnd()) {
                place = p - 1;
                break;
            }
        }
        boolean whole = place == text.length() && PROBLEM.matcher(text).matches();
        int counted = Math.min(zeroBelow(text), Math.min(tooManyLetters(text), tooManyTerms(text)));
        if (counted < place || !whole) {
            return Math.min(counted, place);
        }
        return withoutSide(text);
    }

    private static int zeroBelow(String text) {
        Matcher m = Pattern.compile("/(00|0(?![0-9]))").matcher(text);
        return m.find() ? m.start(1) : Integer.MAX_VALUE;
    }

    private static int tooManyLetters(String text) {
        int letters = 0;
        for (int i = 0; i < text.length(); i++) {
            char c = text.charAt(i);
            if ("xyz".indexOf(c) >= 0) {
                letters++;
            } else if (i > 0 && text.charAt(i - 1) == '^') {
                letters += c - '1';
            } else if ("+-;=".indexOf(c) >= 0) {
                letters = 0;
            }
            if (letters > 6) {
                return i;
            }
        }
        return Integer.MAX_VALUE;
    }

    private static int tooManyTerms(String text) {
        int signs = 0;
        for (int i = 1; i < text.length(); i++) {
            char c = text.charAt(i);
            if (c == '=') {
                signs = 0;
            } else if ((c == '+' || c == '-') && text.charAt(i - 1) != '=') {
                signs++;
            }
            if (signs == 12) {
                return i;
            }
        }
        return Integer.MAX_VALUE;
    }

    private static int withoutSide(String text) {
        for (int i = 0; i < text.length(); i++) {
            String c = text.substring(i, i + 1);
            if ("xyz".contains(c) && !text.startsWith(c + "=") && !text.contains(";" + c + "=")) {
                return i;
            }
        }
        return -1;
    }

    int compile() {
        String text = tape.toString();
        tape = new StringBuilder();
        fault = faultOf(text);
        if (fault != -1) {
            throw new IllegalArgumentException();
        }
        sides = new ArrayList<>();
        crossing = null;
        first = new ArrayList<>();
        for (String part : text.split(";")) {
            List<Term> polynomial = polynomialOf(part.substring(2));
            if (part.startsWith("g")) {
                crossing = polynomial;
            } else {
                sides.add(polynomial);
                first.add(ZERO);
            }
        }
        beginAnew();
        return sides.size();
    }

    private static List<Term> polynomialOf(String text) {
        List<Term> terms = new ArrayList<>();
        Matcher m = Pattern.compile("([+-]?)([0-9]*)/?((?<=/)[0-9]+)?([xyz^1-4]*)").matcher(text);
        for (int at = 0; at < text.length(); at = m.end()) {
            m.find(at);
            BigInteger n = m.group(2).isEmpty() ? BigInteger.ONE : new BigInteger(m.group(2));
            BigInteger d = m.group(3) == null ? BigInteger.ONE : new BigInteger(m.group(3));
            Span number = new Span(Span.down(n.multiply(Span.UNIT), d), Span.up(n.multiply(Span.UNIT), d));
            if (m.group(1).equals("-")) {
                number = new Span(number.high.negate(), number.low.negate());
            }
            terms.add(new Term(number, lettersOf(m.group(4))));
        }
        return terms;
    }

    private static List<Integer> lettersOf(String factors) {
        List<Integer> letters = new ArrayList<>();
        Matcher m = Pattern.compile("([xyz])(?:\\^([1-4]))?").matcher(factors);
        while (m.find()) {
            int power = m.group(2) == null ? 1 : Integer.parseInt(m.group(2));
            for (int i = 0; i < power; i++) {
                letters.add(m.group(1).charAt(0) - 'x');
            }
        }
        letters.sort(null);
        return letters;
    }

    // ---- values and series

    static Span value(List<Term> polynomial, List<Span> box) {
        Span sum = ZERO;
        for (Term t : polynomial) {
            Span product = t.number;
            for (int v : t.letters) {
                product = product.times(box.get(v));
            }
            sum = sum.sum(product);
        }
        return sum;
    }

    private static List<Span> product(List<Span> a, List<Span> b, int last) {
        List<Span> answer = new ArrayList<>();
        for (int k = 0; k <= last; k++) {
            Span sum = ZERO;
            for (int j = 0; j <= k; j++) {
                sum = sum.sum(a.get(j).times(b.get(k - j)));
            }
            answer.add(sum);
        }
        return answer;
    }

    private static Span numberOf(List<Term> polynomial, List<List<Span>> series, int k) {
        Span sum = ZERO;
        for (Term t : polynomial) {
            List<Span> row = new ArrayList<>();
            for (int j = 0; j <= k; j++) {
                row.add(j == 0 ? t.number : ZERO);
            }
            for (int v : t.letters) {
                row = product(row, series.get(v), k);
            }
            sum = sum.sum(row.get(k));
        }
        return sum;
    }

    List<List<Span>> coefficients(List<Span> box, int last) {
        List<List<Span>> series = new ArrayList<>();
        for (Span s : box) {
            series.add(new ArrayList<>(List.of(s)));
        }
        for (int k = 0; k < last; k++) {
            List<Span> next = new ArrayList<>();
            for (List<Term> side : sides) {
                next.add(numberOf(side, series, k).over(k + 1));
            }
            for (int v = 0; v < box.size(); v++) {
                series.get(v).add(next.get(v));
            }
        }
        return series;
    }

    // ---- the run

    private void beginAnew() {
        time = 0;
        shift = coarseness;
        inARow = 0;
        refused = 0;
        tries = 0;
        marks = new ArrayList<>();
        crosses = new ArrayList<>();
        if (!sides.isEmpty()) {
            addMark(first, first);
        }
    }

    private void addMark(List<Span> box, List<Span> proved) {
        int sign = 0;
        if (crossing != null) {
            try {
                Span value = value(crossing, box);
                sign = value.low.signum() > 0 ? 1 : value.high.signum() < 0 ? -1 : 0;
            } catch (Beyond e) {
                sign = 0;
            }
        }
        marks.add(new Mark(box, proved, time, sign));
        int later = marks.size() - 1;
        int earlier = later - 1;
        while (earlier >= 0 && marks.get(earlier).sign == 0) {
            earlier--;
        }
        if (sign != 0 && earlier >= 0 && marks.get(earlier).sign == -sign) {
            crosses.add(new Cross(earlier, later, sign));
        }
    }

    boolean begin(int v, int low, int high) {
        if (v < 0 || v >= sides.size() || low > high || low < -(1 << 30) || high > 1 << 30) {
            return false;
        }
        first = new ArrayList<>(first);
        first.set(v, Span.of(low, high));
        beginAnew();
        return true;
    }

    boolean settle(int newOrder, int newHorizon, int newCoarseness) {
        boolean good = newOrder >= 1 && newOrder <= 8 && newHorizon >= 0 && newHorizon <= 1 << 26
            && newHorizon % 16 == 0 && newCoarseness >= 0 && newCoarseness <= 10;
        if (good) {
            order = newOrder;
            horizon = newHorizon;
            coarseness = newCoarseness;
            beginAnew();
        }
        return good;
    }

    int step(int n) {
        if (sides.isEmpty()) {
            throw new IllegalStateException();
        }
        if (n < 1 || n > 200) {
            throw new IllegalArgumentException();
        }
        int done = 0;
        while (done < n && time < horizon) {
            oneStep();
            done++;
        }
        return done;
    }

    private void oneStep() {
        int s = shift;
        while (time + (1 << (20 - s)) > horizon) {
            s++;
        }
        Mark next = null;
        try {
            next = tried(1 << (20 - s));
            while (next == null && s < 16) {
                s++;
                next = tried(1 << (20 - s));
            }
        } catch (Beyond e) {
            beyonds++;
            refused = 2;
            throw new ArithmeticException();
        }
        if (next == null) {
            failures++;
            refused = 1;
            throw new ArithmeticException();
        }
        refused = 0;
        time += 1 << (20 - s);
        addMark(next.box, next.proved);
        if (s > shift) {
            grown++;
            inARow = 0;
        } else {
            inARow++;
        }
        shift = s;
        if (inARow == 3) {
            inARow = 0;
            if (shift > coarseness) {
                lessened++;
                shift--;
            }
        }
    }

    /** null if it FAILED. */
    private Mark tried(int h) {
        tries++;
        List<Span> from = marks.get(marks.size() - 1).box;
        List<Span> proved = provedBox(from, h);
        if (proved == null) {
            return null;
        }
        List<List<Span>> former = coefficients(from, order);
        List<List<Span>> latter = coefficients(proved, order + 1);
        List<Span> box = new ArrayList<>();
        for (int v = 0; v < from.size(); v++) {
            Span y = latter.get(v).get(order + 1);
            for (int k = order; k >= 0; k--) {
                y = y.times(Span.of(h, h)).sum(former.get(v).get(k));
            }
            Span p = proved.get(v);
            BigInteger low = y.low.max(p.low);
            BigInteger high = y.high.min(p.high);
            box.add(low.compareTo(high) > 0 ? p : new Span(low, high));
        }
        return new Mark(box, proved, 0, 0);
    }

    private List<Span> provedBox(List<Span> from, int h) {
        List<Span> c = from;
        for (int turn = 0; turn < 8; turn++) {
            List<Span> j = new ArrayList<>();
            boolean all = turn > 0;
            for (int v = 0; v < from.size(); v++) {
                j.add(from.get(v).sum(Span.of(0, h).times(value(sides.get(v), c))));
                all &= j.get(v).within(c.get(v));
            }
            if (all) {
                return j;
            }
            List<Span> wider = new ArrayList<>();
            for (int v = 0; v < from.size(); v++) {
                BigInteger low = c.get(v).low.min(j.get(v).low);
                BigInteger high = c.get(v).high.max(j.get(v).high);
                BigInteger w = Span.down(high.subtract(low), BigInteger.valueOf(8)).add(BigInteger.ONE);
                wider.add(new Span(low.subtract(w), high.add(w)));
            }
            c = wider;
        }
        return null;
    }

    // ---- what can be asked

    int state(int what) {
        int[] answers = {time, shift, marks.size(), refused, tries, crosses.size()};
        return what < 0 || what > 5 ? -1 : answers[what];
    }

    int box(int i, int v, int what) {
        if (i < 0 || i >= Math.min(400, marks.size())) {
            throw new IndexOutOfBoundsException();
        }
        Mark m = marks.get(i);
        if (v == 3 && (what == 0 || what == 1)) {
            return what == 0 ? m.time : m.sign;
        }
        if (v < 0 || v >= sides.size() || what < 0 || what > 3) {
            throw new IndexOutOfBoundsException();
        }
        Span s = (what < 2 ? m.box : m.proved).get(v);
        return (what % 2 == 0 ? s.low : s.high).intValueExact();
    }

    int crossing(int i, int what) {
        if (i < 0 || i >= Math.min(100, crosses.size()) || what < 0 || what > 2) {
            throw new IndexOutOfBoundsException();
        }
        Cross c = crosses.get(i);
        return what == 0 ? c.earlier : what == 1 ? c.later : c.sign;
    }

    int coefficient(int v, int k, boolean high) {
        if (v < 0 || v >= sides.size() || k < 0 || k > 9) {
            throw new IndexOutOfBoundsException();
        }
        try {
            Span s = coefficients(marks.get(marks.size() - 1).box, k).get(v).get(k);
            return (high ? s.high : s.low).intValueExact();
        } catch (Beyond e) {
            throw new ArithmeticException();
        }
    }
}
