/**
 * Boxes that are sure to hold all solutions of polynomial differential equations from a box on.
 * All numbers are whole numbers of 2^-20; every interval is rounded outward.
 *
 * All rows are made once, with the object, and used again by every call, so that no call makes an object of its own
 * (but for the exceptions that the document asks for).
 */
public final class BoxFlow {
    public static final int NONE = -1;

    private static final int FRACTION_BITS = 20;
    private static final long ONE = 1L << FRACTION_BITS;
    private static final long LIMIT = 1L << 30;

    private static final int TAPE_ROOM = 240;
    private static final int MOST_BYTES = 8;
    private static final int FIRST_BYTE = 33;
    private static final int LAST_BYTE = 126;

    private static final int LETTERS = 3;
    private static final int MOST_TERMS = 12;
    private static final int MOST_POWER = 4;
    private static final int MOST_FACTORS = 6;
    private static final int MOST_DIGITS_ABOVE = 3;
    private static final int MOST_DIGITS_BELOW = 2;

    private static final int MOST_ORDER = 8;
    private static final int MOST_HORIZON = 1 << 26;
    private static final int HORIZON_GRAIN = 16;
    private static final int MOST_COARSENESS = 10;
    private static final int FINEST_SHIFT = 16;
    private static final int CALM_STEPS = 3;
    private static final int MOST_STEPS = 200;

    private static final int PROOF_TURNS = 8;
    private static final int WIDENING = 8;
    private static final int COEFFICIENTS = MOST_ORDER + 2;

    private static final int KEPT_BOXES = 400;
    private static final int KEPT_CROSSINGS = 100;

    /** How a try ends; FAILED and BEYOND are also what state(3) answers for them. */
    private static final int DONE = 0;
    private static final int FAILED = 1;
    private static final int BEYOND = 2;

    private int faultPlace;
    private final Parser parser;
    private Problem problem;
    /** compile() reads into this one, so that a fault leaves the problem as it is. */
    private Problem spare;
    private final Run run;

    public BoxFlow() {
        faultPlace = NONE;
        parser = new Parser();
        problem = new Problem();
        spare = new Problem();
        run = new Run();
    }

    public boolean type(long word, int n) {
        if (n < 1 || n > MOST_BYTES || n > parser.room()) {
            return false;
        }
        for (int i = 0; i < n; i++) {
            int c = byteOf(word, i);
            if (c < FIRST_BYTE || c > LAST_BYTE) {
                return false;
            }
        }
        for (int i = n - 1; i >= 0; i--) {
            parser.add(byteOf(word, i));
        }
        return true;
    }

    private static int byteOf(long word, int i) {
        return (int) (word >>> (8 * i)) & 255;
    }

    public int compile() throws IllegalArgumentException {
        faultPlace = parser.read(spare);
        parser.emptyTape();
        if (faultPlace != NONE) {
            throw new IllegalArgumentException("the tape has a fault");
        }
        Problem former = problem;
        problem = spare;
        spare = former;
        run.beginAtZero();
        run.restart(problem);
        return problem.sides;
    }

    public int fault() {
        return faultPlace;
    }

    public boolean begin(int v, int low, int high) {
        if (v < 0 || v >= problem.sides || low > high || low < -LIMIT || high > LIMIT) {
            return false;
        }
        run.first.low[v] = low;
        run.first.high[v] = high;
        run.restart(problem);
        return true;
    }

    public boolean settle(int order, int horizon, int coarse) {
        if (order < 1 || order > MOST_ORDER || coarse < 0 || coarse > MOST_COARSENESS) {
            return false;
        }
        if (horizon < 0 || horizon > MOST_HORIZON || horizon % HORIZON_GRAIN != 0) {
            return false;
        }
        run.order = order;
        run.horizon = horizon;
        run.coarseness = coarse;
        run.restart(problem);
        return true;
    }

    public int step(int n) throws IllegalStateException, ArithmeticException, IllegalArgumentException {
        if (problem.sides == 0) {
            throw new IllegalStateException("there is no problem");
        }
        if (n < 1 || n > MOST_STEPS) {
            throw new IllegalArgumentException("n is not 1 .. 200");
        }
        for (int done = 0; done < n; done++) {
            if (run.time >= run.horizon) {
                return done;
            }
            if (!run.advance(problem)) {
                throw new ArithmeticException("a step was refused");
            }
        }
        return n;
    }

    public int state(int what) {
        switch (what) {
            case 0:
                return run.time;
            case 1:
                return run.shift;
            case 2:
                return run.history.boxes;
            case 3:
                return run.refusal;
            case 4:
                return run.tries;
            case 5:
                return run.history.crossings;
            default:
                return NONE;
        }
    }

    public int box(int i, int v, int what) throws IndexOutOfBoundsException {
        if (!run.history.hasBox(i) || !hasBoxField(v, what)) {
            throw new IndexOutOfBoundsException("there is no such box");
        }
        return run.history.boxField(i, v, what);
    }

    private boolean hasBoxField(int v, int what) {
        if (v == LETTERS) {
            return what == 0 || what == 1;
        }
        return v >= 0 && v < problem.sides && what >= 0 && what < History.LETTER_FIELDS;
    }

    public int crossing(int i, int what) throws IndexOutOfBoundsException {
        if (!run.history.hasCrossing(i) || what < 0 || what >= History.CROSSING_FIELDS) {
            throw new IndexOutOfBoundsException("there is no such crossing");
        }
        return run.history.crossingField(i, what);
    }

    public int coefficient(int v, int k, boolean high) throws IndexOutOfBoundsException, ArithmeticException {
        if (v < 0 || v >= problem.sides || k < 0 || k >= COEFFICIENTS) {
            throw new IndexOutOfBoundsException("there is no such coefficient");
        }
        Coefficients coefficients = run.trial.coefficients;
        if (!coefficients.fill(problem, run.present, k)) {
            throw new ArithmeticException("a number is beyond the limit");
        }
        int place = Coefficients.placeOf(v, k);
        return (int) (high ? coefficients.series.high[place] : coefficients.series.low[place]);
    }

    /**
     * The interval at hand: each operation replaces it. Once an end was beyond the LIMIT, that stays noted until it is
     * forgotten; the numbers that follow mean nothing then.
     */
    private static final class Interval {
        long low;
        long high;
        boolean beyond;

        void forgetBeyond() {
            beyond = false;
        }

        void set(long newLow, long newHigh) {
            low = newLow;
            high = newHigh;
            look();
        }

        void take(Row row, int place) {
            low = row.low[place];
            high = row.high[place];
        }

        void sum(long otherLow, long otherHigh) {
            low += otherLow;
            high += otherHigh;
            look();
        }

        void times(long otherLow, long otherHigh) {
            long a = low * otherLow;
            long b = low * otherHigh;
            long c = high * otherLow;
            long d = high * otherHigh;
            long least = Math.min(Math.min(a, b), Math.min(c, d));
            long greatest = Math.max(Math.max(a, b), Math.max(c, d));
            low = least >> FRACTION_BITS;
            high = -(-greatest >> FRACTION_BITS);
            look();
        }

        void over(int n) {
            low = Math.floorDiv(low, (long) n);
            high = -Math.floorDiv(-high, (long) n);
        }

        /** What is beyond becomes 0, so that no later product can overflow. */
        private void look() {
            if (low < -LIMIT || high > LIMIT) {
                beyond = true;
                low = 0;
                high = 0;
            }
        }
    }

    /** Intervals by their places: a box (by letter), or many series one behind the other. */
    private static final class Row {
        final long[] low;
        final long[] high;

        Row(int size) {
            low = new long[size];
            high = new long[size];
        }

        void put(int place, Interval interval) {
            low[place] = interval.low;
            high[place] = interval.high;
        }

        void copyFrom(Row other) {
            int size = Math.min(low.length, other.low.length);
            System.arraycopy(other.low, 0, low, 0, size);
            System.arraycopy(other.high, 0, high, 0, size);
        }

        void clear() {
            for (int i = 0; i < low.length; i++) {
                low[i] = 0;
                high[i] = 0;
            }
        }
    }

    /** Terms as they stand: the number of each, and how often each letter is in it. */
    private static final class Polynomial {
        final Row numbers;
        final int[] powers;
        int terms;

        Polynomial() {
            numbers = new Row(MOST_TERMS);
            powers = new int[MOST_TERMS * LETTERS];
            terms = 0;
        }

        void addTerm(int above, int below, boolean negative) {
            long least = Math.floorDiv(above * ONE, (long) below);
            long greatest = -Math.floorDiv(-above * ONE, (long) below);
            numbers.low[terms] = negative ? -greatest : least;
            numbers.high[terms] = negative ? -least : greatest;
            for (int v = 0; v < LETTERS; v++) {
                powers[terms * LETTERS + v] = 0;
            }
            terms++;
        }

        void multiplyLastTerm(int v, int power) {
            powers[(terms - 1) * LETTERS + v] += power;
        }

        int power(int term, int v) {
            return powers[term * LETTERS + v];
        }

        /** THE VALUE over a box becomes the interval at hand. */
        void value(Row box, Interval at) {
            long sumLow = 0;
            long sumHigh = 0;
            for (int t = 0; t < terms; t++) {
                at.take(numbers, t);
                for (int v = 0; v < LETTERS; v++) {
                    for (int p = power(t, v); p > 0; p--) {
                        at.times(box.low[v], box.high[v]);
                    }
                }
                at.sum(sumLow, sumHigh);
                sumLow = at.low;
                sumHigh = at.high;
            }
        }
    }

    /** What the tape said; without SIDES it is no problem yet. */
    private static final class Problem {
        final Polynomial[] side;
        final Polynomial crossed;
        int sides;
        boolean hasCrossing;

        Problem() {
            side = new Polynomial[LETTERS];
            for (int v = 0; v < LETTERS; v++) {
                side[v] = new Polynomial();
            }
            crossed = new Polynomial();
            sides = 0;
            hasCrossing = false;
        }
    }

    /** Holds the tape and reads it into a problem. A method that answers false has noted the place of the fault. */
    private static final class Parser {
        /** No byte of a tape is 0. */
        private static final int END = 0;

        private final byte[] tape;
        private int length;
        private int place;
        private int fault;
        private int above;
        private int below;
        private final int[] firstPlaces;

        Parser() {
            tape = new byte[TAPE_ROOM];
            length = 0;
            place = 0;
            fault = NONE;
            above = 1;
            below = 1;
            firstPlaces = new int[LETTERS];
        }

        int room() {
            return TAPE_ROOM - length;
        }

        void add(int c) {
            if (length < TAPE_ROOM) {
                tape[length] = (byte) c;
                length++;
            }
        }

        void emptyTape() {
            length = 0;
        }

        /** The place of the fault, or NONE. */
        int read(Problem into) {
            startOver();
            boolean good = readEquation('x', into.side[0]);
            into.sides = 1;
            for (int v = 1; v < LETTERS && good && here() == 'x' + v; v++) {
                good = readEquation('x' + v, into.side[v]);
                into.sides = v + 1;
            }
            into.hasCrossing = good && here() == 'g';
            if (into.hasCrossing) {
                good = readEquation('g', into.crossed);
            }
            if (good && here() != END) {
                good = faultAt(place);
            }
            return good ? firstWithoutSide(into.sides) : fault;
        }

        private void startOver() {
            place = 0;
            fault = NONE;
            for (int v = 0; v < LETTERS; v++) {
                firstPlaces[v] = NONE;
            }
        }

        /** Only the whole problem tells which letters have a SIDE, so these are looked at behind all else. */
        private int firstWithoutSide(int sides) {
            int first = NONE;
            for (int v = sides; v < LETTERS; v++) {
                if (firstPlaces[v] != NONE && (first == NONE || firstPlaces[v] < first)) {
                    first = firstPlaces[v];
                }
            }
            return first;
        }

        private boolean readEquation(int name, Polynomial into) {
            return expect(name) && expect('=') && readPolynomial(into) && expect(';');
        }

        private boolean readPolynomial(Polynomial into) {
            into.terms = 0;
            boolean negative = here() == '-';
            if (negative) {
                place++;
            }
            for (int t = 1; t <= MOST_TERMS; t++) {
                if (!readTerm(into, negative)) {
                    return false;
                }
                int sign = here();
                if (sign != '+' && sign != '-') {
                    return true;
                }
                negative = sign == '-';
                place++;
            }
            return faultAt(place - 1);
        }

        private boolean readTerm(Polynomial into, boolean negative) {
            above = 1;
            below = 1;
            boolean numbered = isDigit(here());
            if (numbered && !readNumber()) {
                return false;
            }
            if (!numbered && letterHere() == NONE) {
                return faultAt(place);
            }
            into.addTerm(above, below, negative);
            return readFactors(into);
        }

        private boolean readNumber() {
            above = readDigits(MOST_DIGITS_ABOVE);
            if (here() != '/') {
                return true;
            }
            place++;
            int firstDigit = place;
            if (!isDigit(here())) {
                return faultAt(place);
            }
            below = readDigits(MOST_DIGITS_BELOW);
            return below != 0 || faultAt(firstDigit);
        }

        private int readDigits(int most) {
            int number = 0;
            for (int i = 0; i < most; i++) {
                int c = here();
                if (c < '0' || c > '9') {
                    return number;
                }
                number = number * 10 + (c - '0');
                place++;
            }
            return number;
        }

        private boolean readFactors(Polynomial into) {
            int room = MOST_FACTORS;
            for (int turn = 0; turn <= MOST_FACTORS; turn++) {
                int v = letterHere();
                if (v == NONE) {
                    return true;
                }
                if (room == 0) {
                    return faultAt(place);
                }
                noteLetter(v);
                place++;
                int power = readPower(room);
                if (power == NONE) {
                    return false;
                }
                into.multiplyLastTerm(v, power);
                room -= power;
            }
            return faultAt(place);
        }

        /** 1 without a ^; NONE for a fault. */
        private int readPower(int room) {
            if (here() != '^') {
                return 1;
            }
            place++;
            int power = here() - '0';
            if (power < 1 || power > MOST_POWER || power > room) {
                faultAt(place);
                return NONE;
            }
            place++;
            return power;
        }

        private void noteLetter(int v) {
            if (firstPlaces[v] == NONE) {
                firstPlaces[v] = place;
            }
        }

        private int letterHere() {
            int v = here() - 'x';
            return v >= 0 && v < LETTERS ? v : NONE;
        }

        private static boolean isDigit(int c) {
            return c >= '0' && c <= '9';
        }

        private boolean expect(int c) {
            if (here() != c) {
                return faultAt(place);
            }
            place++;
            return true;
        }

        private int here() {
            return place < length ? tape[place] : END;
        }

        private boolean faultAt(int where) {
            fault = where;
            return false;
        }
    }

    /** THE COEFFICIENTS over a box, number by number, with the series of the products that lead to them. */
    private static final class Coefficients {
        private static final int ROWS_OF_TERM = MOST_FACTORS + 1;
        private static final int ROWS_OF_SIDE = MOST_TERMS * ROWS_OF_TERM;

        final Row series;
        /**
         * For each TERM of each SIDE: the series of its number, of that and one letter, of that and two, and so on.
         * They are kept, as number k of a product asks for all numbers of its first factor up to k.
         */
        private final Row products;
        private final Interval at;

        Coefficients() {
            series = new Row(LETTERS * COEFFICIENTS);
            products = new Row(LETTERS * ROWS_OF_SIDE * COEFFICIENTS);
            at = new Interval();
        }

        static int placeOf(int row, int k) {
            return row * COEFFICIENTS + k;
        }

        /** Numbers 0 .. last of all letters; false if a number that comes up is beyond the LIMIT. */
        boolean fill(Problem problem, Row box, int last) {
            at.forgetBeyond();
            for (int v = 0; v < problem.sides; v++) {
                at.take(box, v);
                series.put(placeOf(v, 0), at);
            }
            for (int k = 0; k < last && !at.beyond; k++) {
                for (int v = 0; v < problem.sides; v++) {
                    numberOfSide(problem.side[v], v * ROWS_OF_SIDE, k);
                    at.over(k + 1);
                    series.put(placeOf(v, k + 1), at);
                }
            }
            return !at.beyond;
        }

        /** Number k of a polynomial over the letters' series becomes the interval at hand. */
        private void numberOfSide(Polynomial side, int firstRow, int k) {
            long sumLow = 0;
            long sumHigh = 0;
            for (int t = 0; t < side.terms; t++) {
                int row = firstRow + t * ROWS_OF_TERM;
                startTerm(side, t, row, k);
                // Behind its number 0 the series of a term's number is 0, and would add nothing.
                int last = 0;
                for (int v = 0; v < LETTERS; v++) {
                    for (int p = side.power(t, v); p > 0; p--) {
                        numberOfProduct(row, last, v, k);
                        row++;
                        products.put(placeOf(row, k), at);
                        last = k;
                    }
                }
                at.sum(sumLow, sumHigh);
                sumLow = at.low;
                sumHigh = at.high;
            }
        }

        private void startTerm(Polynomial side, int t, int row, int k) {
            if (k == 0) {
                at.take(side.numbers, t);
            } else {
                at.set(0, 0);
            }
            products.put(placeOf(row, k), at);
        }

        /** Number k of the PRODUCT of a row, of which only numbers 0 .. last count, and a letter's series. */
        private void numberOfProduct(int row, int last, int v, int k) {
            long sumLow = 0;
            long sumHigh = 0;
            for (int j = 0; j <= last; j++) {
                at.take(products, placeOf(row, j));
                int other = placeOf(v, k - j);
                at.times(series.low[other], series.high[other]);
                at.sum(sumLow, sumHigh);
                sumLow = at.low;
                sumHigh = at.high;
            }
        }
    }

    /** TO TRY a step: first prove(), then, if that is DONE, narrow(). */
    private static final class Trial {
        final Row proved;
        final Row next;
        /** Filled anew by all who ask for some, so that one set of rows is enough for an object. */
        final Coefficients coefficients;
        private final Row guess;
        private final Row rest;
        private final Interval at;

        Trial() {
            proved = new Row(LETTERS);
            next = new Row(LETTERS);
            coefficients = new Coefficients();
            guess = new Row(LETTERS);
            rest = new Row(LETTERS);
            at = new Interval();
        }

        /** Seeks the PROVED box: DONE, FAILED or BEYOND. */
        int prove(Problem problem, Row from, int h) {
            at.forgetBeyond();
            guess.copyFrom(from);
            for (int turn = 1; turn <= PROOF_TURNS; turn++) {
                boolean within = reach(problem, from, h);
                if (at.beyond) {
                    return BEYOND;
                }
                if (turn > 1 && within) {
                    return DONE;
                }
                widenGuess(problem.sides);
                if (at.beyond) {
                    return BEYOND;
                }
            }
            return FAILED;
        }

        /** What can be come to during the step by what stays in the guess; tells if that lies within the guess. */
        private boolean reach(Problem problem, Row from, int h) {
            boolean within = true;
            for (int v = 0; v < problem.sides; v++) {
                problem.side[v].value(guess, at);
                at.times(0, h);
                at.sum(from.low[v], from.high[v]);
                proved.put(v, at);
                within = within && guess.low[v] <= at.low && at.high <= guess.high[v];
            }
            return within;
        }

        private void widenGuess(int sides) {
            for (int v = 0; v < sides; v++) {
                long low = Math.min(guess.low[v], proved.low[v]);
                long high = Math.max(guess.high[v], proved.high[v]);
                long more = (high - low) / WIDENING + 1;
                at.set(low - more, high + more);
                guess.put(v, at);
            }
        }

        /** Seeks the box at the step's end: DONE or BEYOND. */
        int narrow(Problem problem, Row from, int h, int order) {
            if (!coefficients.fill(problem, proved, order + 1)) {
                return BEYOND;
            }
            for (int v = 0; v < problem.sides; v++) {
                at.take(coefficients.series, Coefficients.placeOf(v, order + 1));
                rest.put(v, at);
            }
            if (!coefficients.fill(problem, from, order)) {
                return BEYOND;
            }
            for (int v = 0; v < problem.sides; v++) {
                addUpSeries(v, h, order);
                keepCommonPart(v);
            }
            return at.beyond ? BEYOND : DONE;
        }

        private void addUpSeries(int v, int h, int order) {
            at.take(rest, v);
            for (int k = order; k >= 0; k--) {
                int place = Coefficients.placeOf(v, k);
                at.times(h, h);
                at.sum(coefficients.series.low[place], coefficients.series.high[place]);
            }
        }

        private void keepCommonPart(int v) {
            long low = Math.max(at.low, proved.low[v]);
            long high = Math.min(at.high, proved.high[v]);
            boolean common = low <= high;
            next.low[v] = common ? low : proved.low[v];
            next.high[v] = common ? high : proved.high[v];
        }
    }

    /** The TAPE OF BOXES and the CROSSINGS. All are counted, the first ones are kept. */
    private static final class History {
        static final int LETTER_FIELDS = 4;
        static final int CROSSING_FIELDS = 3;
        /** Time and sign stand behind the letters' fields, as those of a fourth letter. */
        private static final int BOX_FIELDS = LETTERS * LETTER_FIELDS + 2;

        int boxes;
        int crossings;
        private final int[] boxFields;
        private final int[] crossingFields;
        private int lastSign;
        private int lastSigned;

        History() {
            boxFields = new int[KEPT_BOXES * BOX_FIELDS];
            crossingFields = new int[KEPT_CROSSINGS * CROSSING_FIELDS];
            clear();
        }

        void clear() {
            boxes = 0;
            crossings = 0;
            lastSign = 0;
            lastSigned = NONE;
        }

        void addBox(Row box, Row proved, int time, int sign) {
            if (boxes < KEPT_BOXES) {
                int base = boxes * BOX_FIELDS;
                for (int v = 0; v < LETTERS; v++) {
                    int place = base + v * LETTER_FIELDS;
                    boxFields[place] = (int) box.low[v];
                    boxFields[place + 1] = (int) box.high[v];
                    boxFields[place + 2] = (int) proved.low[v];
                    boxFields[place + 3] = (int) proved.high[v];
                }
                boxFields[base + LETTERS * LETTER_FIELDS] = time;
                boxFields[base + LETTERS * LETTER_FIELDS + 1] = sign;
            }
            if (sign != 0) {
                noteSign(sign);
            }
            boxes++;
        }

        /** Boxes of sign 0 are passed over, so that only those may lie between the two boxes of a CROSSING. */
        private void noteSign(int sign) {
            if (lastSign == -sign) {
                addCrossing(sign);
            }
            lastSign = sign;
            lastSigned = boxes;
        }

        private void addCrossing(int sign) {
            if (crossings < KEPT_CROSSINGS) {
                int base = crossings * CROSSING_FIELDS;
                crossingFields[base] = lastSigned;
                crossingFields[base + 1] = boxes;
                crossingFields[base + 2] = sign;
            }
            crossings++;
        }

        boolean hasBox(int i) {
            return i >= 0 && i < boxes && i < KEPT_BOXES;
        }

        int boxField(int i, int v, int what) {
            return boxFields[i * BOX_FIELDS + v * LETTER_FIELDS + what];
        }

        boolean hasCrossing(int i) {
            return i >= 0 && i < crossings && i < KEPT_CROSSINGS;
        }

        int crossingField(int i, int what) {
            return crossingFields[i * CROSSING_FIELDS + what];
        }
    }

    /** A RUN: its settings, where it stands, and what it has passed. */
    private static final class Run {
        int order;
        int horizon;
        int coarseness;
        int time;
        int shift;
        int tries;
        int refusal;
        final Row first;
        final Row present;
        final History history;
        final Trial trial;
        private int calmSteps;
        private final Interval at;

        Run() {
            order = 4;
            horizon = 1 << 20;
            coarseness = 4;
            time = 0;
            shift = coarseness;
            tries = 0;
            refusal = DONE;
            first = new Row(LETTERS);
            present = new Row(LETTERS);
            history = new History();
            trial = new Trial();
            calmSteps = 0;
            at = new Interval();
        }

        void beginAtZero() {
            first.clear();
        }

        void restart(Problem problem) {
            time = 0;
            shift = coarseness;
            tries = 0;
            refusal = DONE;
            calmSteps = 0;
            present.copyFrom(first);
            history.clear();
            if (problem.sides > 0) {
                history.addBox(present, present, time, signOver(problem));
            }
        }

        /** A STEP; false if it was REFUSED. */
        boolean advance(Problem problem) {
            int outcome = FAILED;
            int tried = shiftToHorizon();
            for (; tried <= FINEST_SHIFT; tried++) {
                int h = lengthOf(tried);
                tries++;
                outcome = trial.prove(problem, present, h);
                if (outcome == DONE) {
                    outcome = trial.narrow(problem, present, h, order);
                }
                if (outcome != FAILED) {
                    break;
                }
            }
            refusal = outcome;
            if (outcome != DONE) {
                return false;
            }
            time += lengthOf(tried);
            present.copyFrom(trial.next);
            history.addBox(present, trial.proved, time, signOver(problem));
            adaptShift(tried);
            return true;
        }

        private static int lengthOf(int anyShift) {
            return 1 << (FRACTION_BITS - anyShift);
        }

        /** Time and HORIZON are divisible by the finest step, which therefore always fits. */
        private int shiftToHorizon() {
            int fitting = shift;
            while (fitting < FINEST_SHIFT && time + lengthOf(fitting) > horizon) {
                fitting++;
            }
            return fitting;
        }

        private void adaptShift(int used) {
            calmSteps = used > shift ? 0 : calmSteps + 1;
            shift = used;
            if (calmSteps == CALM_STEPS) {
                calmSteps = 0;
                if (shift > coarseness) {
                    shift--;
                }
            }
        }

        private int signOver(Problem problem) {
            if (!problem.hasCrossing) {
                return 0;
            }
            at.forgetBeyond();
            problem.crossed.value(present, at);
            if (at.beyond) {
                return 0;
            }
            if (at.low > 0) {
                return 1;
            }
            return at.high < 0 ? -1 : 0;
        }
    }
}
