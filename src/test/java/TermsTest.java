/**
 * The sentences of "Terms" on numbers, the tape and polynomials, one method each: the last value that is still taken and
 * the first one that is not.
 */
public final class TermsTest {
    private static final int ONE = Bench.ONE;
    private static final int LIMIT = Bench.LIMIT;
    private static final Bench bench = new Bench("TermsTest");

    public static void main(String[] args) {
        numbersGoToTheLimit();
        sumAddsTheEnds();
        sumsGoToTheLimit();
        timesTakesTheLeastAndTheGreatestProduct();
        timesRoundsOutward();
        productsGoToTheLimit();
        overRoundsOutward();
        overComesBehindTheLimit();
        tapeHas240Characters();
        oneToThreeSidesInTheirOrder();
        perhapsACrossing();
        termsWithSignsBetween();
        numberOrNumberAndFactorsOrFactors();
        numberHasOneToThreeDigits();
        oneOrTwoDigitsBelowTheLine();
        factorIsALetterPerhapsWithADigit();
        sixLettersInATerm();
        lettersInAnyOrder();
        twelveTermsInAPolynomial();
        noBlanks();
        theFirstCharacterThatCantStandThere();
        theTapesLengthIfOneIsMissing();
        aLetterOfWhichThereIsNoSide();
        lettersWithoutASideAreToldLast();
        aTermsNumberIsRoundedOutward();
        aTermsNumberIsOneWithoutANumber();
        valueGoesTermByTerm();
        valueTakesTheLettersOfXFirst();
        valueSquaresByTimes();
        productsOfSeriesAreRoundedOneByOne();
        productsOfSeriesGoFromNumberZeroOn();
        seriesGoTermByTerm();
        aNumbersSeriesIsZeroBehindIt();
        coefficientsAreDividedOneByOne();
        coefficientsOfSeveralLetters();
        bench.end();
    }

    private static int[] ends(int... ends) {
        return ends;
    }

    // ---- UNITS

    /** "a number is a whole number of 2^-20, from -2^30 to 2^30 (the LIMIT; these are not beyond it)" */
    private static void numbersGoToTheLimit() {
        bench.dueValue("x=x;", ends(-LIMIT, LIMIT), -LIMIT, LIMIT);
        bench.dueValue("x=-x;", ends(LIMIT, LIMIT), -LIMIT, -LIMIT);
        BoxFlow flow = bench.flowOf("x=0;");
        bench.due("begin above the LIMIT", flow.begin(0, LIMIT, LIMIT + 1), false);
        bench.due("begin below the LIMIT", flow.begin(0, -LIMIT - 1, -LIMIT), false);
        bench.dueCoefficient(flow, 0, 0, 0, 0);
    }

    /** "SUM: low + low, high + high." */
    private static void sumAddsTheEnds() {
        bench.dueValue("x=x+y;y=0;", ends(-3, 5, 7, 11), 4, 16);
        bench.dueValue("x=x+y;y=0;", ends(-3, 5, -11, -7), -14, -2);
        bench.dueValue("x=x-y;y=0;", ends(-3, 5, 7, 11), -14, -2);
        bench.dueValue("x=x-x;", ends(-3, 5), -8, 8);
    }

    private static void sumsGoToTheLimit() {
        String tape = "x=x+y;y=0;";
        bench.dueValue(tape, ends(LIMIT - 5, LIMIT - 5, 5, 5), LIMIT, LIMIT);
        bench.dueValueBeyond(tape, LIMIT - 5, LIMIT - 5, 5, 6);
        bench.dueValue(tape, ends(5 - LIMIT, 5 - LIMIT, -5, -5), -LIMIT, -LIMIT);
        bench.dueValueBeyond(tape, 5 - LIMIT, 5 - LIMIT, -6, -5);
        bench.dueValue(tape, ends(1 - LIMIT, LIMIT - 1, -1, 1), -LIMIT, LIMIT);
        bench.dueValueBeyond(tape, 1 - LIMIT, LIMIT - 1, -1, 2);
        bench.dueValueBeyond(tape, 1 - LIMIT, LIMIT - 1, -2, 1);
        bench.dueValueBeyond(tape, LIMIT, LIMIT, LIMIT, LIMIT);
        bench.dueValueBeyond(tape, -LIMIT, -LIMIT, -LIMIT, -LIMIT);
    }

    /** "TIMES: the least and the greatest of the four products of ends" */
    private static void timesTakesTheLeastAndTheGreatestProduct() {
        int[][] rows = {
            {2, 3, 5, 7, 10, 21}, {-2, 3, 5, 7, -14, 21}, {-3, -2, 5, 7, -21, -10},
            {2, 3, -5, 7, -15, 21}, {-2, 3, -5, 7, -15, 21}, {-3, -2, -5, 7, -21, 15},
            {2, 3, -7, -5, -21, -10}, {-2, 3, -7, -5, -21, 14}, {-3, -2, -7, -5, 10, 21},
            {-3, 2, -7, 5, -15, 21}, {-3, 2, -5, 7, -21, 15}, {0, 3, -7, 0, -21, 0}, {0, 0, -7, 5, 0, 0},
        };
        for (int[] r : rows) {
            bench.dueValue("x=xy;y=0;", ends(r[0] * ONE, r[1] * ONE, r[2] * ONE, r[3] * ONE), r[4] * ONE, r[5] * ONE);
        }
    }

    /** "divided by 2^20, the least one downwards, the greatest one upwards" */
    private static void timesRoundsOutward() {
        int[][] rows = {
            {1, 1, 0, 1}, {-1, 1, -1, 0}, {-1, -1, 0, 1}, {0, 1, 0, 0}, {1024, 1024, 1, 1}, {-1024, 1024, -1, -1},
            {1024, 1025, 1, 2}, {-1024, 1025, -2, -1}, {1024, 1023, 0, 1}, {-1024, 1023, -1, 0},
            {ONE - 1, ONE - 1, ONE - 2, ONE - 1}, {1 - ONE, ONE - 1, 1 - ONE, 2 - ONE},
        };
        for (int[] r : rows) {
            bench.dueValue("x=xy;y=0;", ends(r[0], r[0], r[1], r[1]), r[2], r[3]);
        }
        bench.dueValue("x=xy;y=0;", ends(-1, 1, 1, 1), -1, 1);
        bench.dueValue("x=xy;y=0;", ends(1024, 2048, 1024, 2049), 1, 5);
    }

    /** The products are a unit or less away from the LIMIT before they are rounded. */
    private static void productsGoToTheLimit() {
        String tape = "x=xy;y=0;";
        int root = 1 << 25;
        bench.dueValue(tape, ends(root, root, root, root), LIMIT, LIMIT);
        bench.dueValue(tape, ends(-root, -root, root, root), -LIMIT, -LIMIT);
        bench.dueValue(tape, ends(root + 1, root + 1, root - 1, root - 1), LIMIT - 1, LIMIT);
        bench.dueValue(tape, ends(-root - 1, -root - 1, root - 1, root - 1), -LIMIT, 1 - LIMIT);
        // 2^50 + 486182: rounded down it would be the LIMIT, but it is rounded outward.
        bench.dueValueBeyond(tape, root + 5751, root + 5751, root - 5750, root - 5750);
        bench.dueValueBeyond(tape, -root - 5751, -root - 5751, root - 5750, root - 5750);
        bench.dueValueBeyond(tape, root, root, root, root + 1);
        bench.dueValueBeyond(tape, -LIMIT, -LIMIT, LIMIT, LIMIT);
        bench.dueValueBeyond(tape, -LIMIT, LIMIT, -LIMIT, LIMIT);
    }

    /** "OVER n (a whole number above 0): low / n downwards, high / n upwards." */
    private static void overRoundsOutward() {
        int[][] rows = {
            {-3, 5, -3, 5, -2, 3, -1, 1, -1, 1}, {-4, 4, -4, 4, -2, 2, -1, 1, -1, 1}, {6, 6, 6, 6, 3, 3, 1, 1, 0, 1},
            {-6, -6, -6, -6, -3, -3, -1, -1, -1, 0}, {1, 1, 1, 1, 0, 1, 0, 1, 0, 1}, {-1, -1, -1, -1, -1, 0, -1, 0, -1, 0},
        };
        for (int[] r : rows) {
            BoxFlow flow = bench.flowOf("x=x;");
            bench.begin(flow, r[0], r[1]);
            for (int k = 0; k <= 4; k++) {
                bench.dueCoefficient(flow, 0, k, r[2 * k], r[2 * k + 1]);
            }
            bench.dueCoefficient(flow, 0, 9, r[8], r[9]);
        }
    }

    /** What OVER would bring back below the LIMIT has been beyond it: number 1 of x^2 is 2 x^3, and x^3 only behind it. */
    private static void overComesBehindTheLimit() {
        BoxFlow flow = bench.flowOf("x=x^2;");
        bench.begin(flow, 8 * ONE, 8 * ONE);
        bench.dueCoefficient(flow, 0, 2, 512 * ONE, 512 * ONE);
        bench.begin(flow, 8 * ONE + 1, 8 * ONE + 1);
        bench.dueNoCoefficient(flow, 0, 2, ArithmeticException.class);
        bench.dueCoefficient(flow, 0, 1, 64 * ONE + 16, 64 * ONE + 17);
    }

    // ---- THE TAPE

    /** "THE TAPE has at most 240 characters." */
    private static void tapeHas240Characters() {
        StringBuilder tape = new StringBuilder("x=");
        for (int t = 0; t < 9; t++) {
            tape.append(t == 0 ? "" : "+").append("001/01x^1x^1x^1x^1x^1x^1");
        }
        tape.append(";y=12;");
        while (tape.length() < 240) {
            tape.insert(tape.length() - 1, "+1".charAt(tape.length() % 2));
        }
        bench.due("characters", tape.length(), 240);
        bench.dueGood(tape.toString(), 2);
        BoxFlow flow = new BoxFlow();
        bench.typeAll(flow, tape.toString());
        bench.due("type of the 241st", flow.type('g', 1), false);
        bench.due("compile() of 240", flow.compile(), 2);
    }

    /** "one to three SIDES: x=, y=, z= (in this order, the first ones) and a POLYNOMIAL, and ;" */
    private static void oneToThreeSidesInTheirOrder() {
        bench.dueGood("x=1;", 1);
        bench.dueGood("x=1;y=2;", 2);
        bench.dueGood("x=1;y=2;z=3;", 3);
        bench.dueFault("", 0);
        bench.dueFault("y=1;", 0);
        bench.dueFault("z=1;", 0);
        bench.dueFault("y=1;x=1;", 0);
        bench.dueFault("x=1;z=1;", 4);
        bench.dueFault("x=1;x=1;", 4);
        bench.dueFault("x=1;y=2;y=3;", 8);
        bench.dueFault("x=1;y=2;x=3;", 8);
        bench.dueFault("x=1;y=2;z=3;x=4;", 12);
        bench.dueFault("x=1;y=2;z=3;z=4;", 12);
        bench.dueFault("x=1;w=2;", 4);
        bench.dueFault("w=1;x=1;", 0);
        bench.dueFault("x=1;y=2;z=3;{=4;", 12);
        bench.dueFault("X=1;", 0);
        bench.dueFault("x1;", 1);
        bench.dueFault("x==1;", 2);
        bench.dueFault("x=1;;", 4);
        bench.dueFault(";x=1;", 0);
    }

    /** "then perhaps g= and a POLYNOMIAL (the CROSSING), and ;" */
    private static void perhapsACrossing() {
        bench.dueGood("x=1;g=1;", 1);
        bench.dueGood("x=1;y=2;g=1;", 2);
        bench.dueGood("x=1;y=2;z=3;g=1;", 3);
        bench.dueFault("g=1;", 0);
        bench.dueFault("g=1;x=1;", 0);
        bench.dueFault("x=1;g=1;y=1;", 8);
        bench.dueFault("x=1;g=1;g=1;", 8);
        bench.dueFault("x=1;g=1;;", 8);
        bench.dueFault("x=1;g;", 5);
        bench.dueFault("x=1;g=;", 6);
        bench.dueFault("x=1;G=1;", 4);
    }

    /** "TERMS with + or - between, perhaps a - ahead of the first one" */
    private static void termsWithSignsBetween() {
        bench.dueGood("x=-1;", 1);
        bench.dueGood("x=1-1+1;", 1);
        bench.dueGood("x=-x-x;g=-x+1;", 1);
        bench.dueFault("x=;", 2);
        bench.dueFault("x=+1;", 2);
        bench.dueFault("x=-;", 3);
        bench.dueFault("x=--1;", 3);
        bench.dueFault("x=1+;", 4);
        bench.dueFault("x=1-;", 4);
        bench.dueFault("x=1+-1;", 4);
        bench.dueFault("x=1-+1;", 4);
        bench.dueFault("x=1++1;", 4);
        bench.dueFault("x=x*x;", 3);
        bench.dueFault("x=(1);", 2);
    }

    /** "A TERM: a NUMBER, or a NUMBER and FACTORS, or FACTORS." */
    private static void numberOrNumberAndFactorsOrFactors() {
        bench.dueGood("x=7;", 1);
        bench.dueGood("x=7x;", 1);
        bench.dueGood("x=7/8xx^2;", 1);
        bench.dueGood("x=xx^2;", 1);
        bench.dueFault("x=x7;", 3);
        bench.dueFault("x=7x7;", 4);
        bench.dueFault("x=x/7;", 3);
        bench.dueFault("x=7x/8;", 4);
        bench.dueFault("x=7/x8;", 4);
    }

    /** "A NUMBER: 1 to 3 digits" */
    private static void numberHasOneToThreeDigits() {
        bench.dueGood("x=0;", 1);
        bench.dueGood("x=9;", 1);
        bench.dueGood("x=99;", 1);
        bench.dueGood("x=999;", 1);
        bench.dueGood("x=000;", 1);
        bench.dueFault("x=1000;", 5);
        bench.dueFault("x=0001;", 5);
        bench.dueFault("x=1234x;", 5);
        bench.dueFault("x=1.5;", 3);
        bench.dueFault("x=/5;", 2);
    }

    /** "perhaps / and 1 to 2 digits (not 0 altogether)"; "a 0 below the line: its first digit" */
    private static void oneOrTwoDigitsBelowTheLine() {
        bench.dueGood("x=1/1;", 1);
        bench.dueGood("x=1/99;", 1);
        bench.dueGood("x=1/01;", 1);
        bench.dueGood("x=1/10x;", 1);
        bench.dueGood("x=0/1;", 1);
        bench.dueGood("x=000/01;", 1);
        bench.dueFault("x=1/;", 4);
        bench.dueFault("x=1/x;", 4);
        bench.dueFault("x=1/-1;", 4);
        bench.dueFault("x=1/100;", 6);
        bench.dueFault("x=1/001;", 4);
        bench.dueFault("x=1/1/1;", 5);
        bench.dueFault("x=1/0;", 4);
        bench.dueFault("x=1/00;", 4);
        bench.dueFault("x=0/0;", 4);
        bench.dueFault("x=123/00x;", 6);
        bench.dueFault("x=1/0", 4);
        bench.dueFault("x=1/0?", 4);
        bench.dueFault("x=1/00?", 4);
    }

    /** "A FACTOR: one of the problem's letters x, y, z, perhaps ^ and a digit 1 .. 4" */
    private static void factorIsALetterPerhapsWithADigit() {
        bench.dueGood("x=x^1;", 1);
        bench.dueGood("x=x^4;", 1);
        bench.dueFault("x=x^0;", 4);
        bench.dueFault("x=x^5;", 4);
        bench.dueFault("x=x^6;", 4);
        bench.dueFault("x=x^9;", 4);
        bench.dueFault("x=x^;", 4);
        bench.dueFault("x=x^x;", 4);
        bench.dueFault("x=x^-1;", 4);
        bench.dueFault("x=x^12;", 5);
        bench.dueFault("x=x^1^1;", 5);
        bench.dueFault("x=x^^1;", 4);
        bench.dueFault("x=^2;", 2);
        bench.dueFault("x=2^2;", 3);
        bench.dueFault("x=w;", 2);
        bench.dueFault("x=g;", 2);
        bench.dueFault("x={;", 2);
        bench.dueFault("x=xw;", 3);
        bench.dueFault("x=xg;g=1;", 3);
    }

    /** "at most 6 letters in all (counted by their ^) in a TERM"; "the letter or the digit with which there are more" */
    private static void sixLettersInATerm() {
        bench.dueGood("x=xxxxxx;", 1);
        bench.dueFault("x=xxxxxxx;", 8);
        bench.dueGood("x=999/99xxxxxx;", 1);
        bench.dueFault("x=999/99xxxxxxx;", 14);
        bench.dueGood("x=x^4x^2;", 1);
        bench.dueFault("x=x^4x^3;", 7);
        bench.dueFault("x=x^4x^2x;", 8);
        bench.dueFault("x=x^4x^2x^1;", 8);
        bench.dueFault("x=x^4x^2x^9;", 8);
        bench.dueFault("x=x^4x^9;", 7);
        bench.dueGood("x=xxxxxx^1;", 1);
        bench.dueFault("x=xxxxxx^2;", 9);
        bench.dueGood("x=xxxx^3;", 1);
        bench.dueFault("x=xxxx^4;", 7);
        bench.dueGood("x=x^2y^2z^2;y=0;z=0;", 3);
        bench.dueFault("x=x^2y^2z^3;y=0;z=0;", 10);
        bench.dueFault("x=x^2y^2z^2x;y=0;z=0;", 11);
        bench.dueGood("x=xxxxxx+xxxxxx-xxxxxx;g=xxxxxx;", 1);
        bench.dueFault("x=xxxxxx+x^3x^4;", 14);
        bench.dueFault("x=1;g=xxxxxxx;", 12);
    }

    /** "in any order" */
    private static void lettersInAnyOrder() {
        for (String term : new String[] {"xyz", "xzy", "yxz", "yzx", "zxy", "zyx"}) {
            bench.dueGood("x=" + term + term + ";y=0;z=0;", 3);
            bench.dueValue("x=" + term + ";y=0;z=0;", ends(2 * ONE, 2 * ONE, 3 * ONE, 3 * ONE, 5 * ONE, 5 * ONE),
                30 * ONE, 30 * ONE);
        }
        bench.dueValue("x=xyx^2y;y=0;", ends(2 * ONE, 2 * ONE, 3 * ONE, 3 * ONE), 72 * ONE, 72 * ONE);
    }

    /** "at most 12 TERMS in a POLYNOMIAL"; "the sign ahead of a thirteenth TERM" */
    private static void twelveTermsInAPolynomial() {
        String twelve = "1+1-1+1-1+1-1+1-1+1-1+1";
        bench.dueGood("x=" + twelve + ";", 1);
        bench.dueGood("x=-" + twelve + ";", 1);
        bench.dueFault("x=" + twelve + "+1;", 25);
        bench.dueFault("x=" + twelve + "-1;", 25);
        bench.dueFault("x=-" + twelve + "-1;", 26);
        bench.dueFault("x=" + twelve + "+;", 25);
        bench.dueFault("x=" + twelve + "+", 25);
        bench.dueFault("x=" + twelve + "?", 25);
        bench.dueGood("x=" + twelve + ";y=" + twelve + ";z=" + twelve + ";g=" + twelve + ";", 3);
        bench.dueFault("x=" + twelve + ";y=" + twelve + "+1;", 51);
        bench.dueFault("x=" + twelve + ";y=" + twelve + ";z=" + twelve + "-1;", 77);
        bench.dueFault("x=" + twelve + ";g=" + twelve + "-1;", 51);
        bench.dueValue("x=" + twelve.replace('-', '+') + ";", ends(), 12 * ONE, 12 * ONE);
    }

    /** "No blanks." They can't be typed. */
    private static void noBlanks() {
        BoxFlow flow = new BoxFlow();
        bench.due("type of a blank", flow.type(' ', 1), false);
        bench.due("type of a blank among others", flow.type(Bench.wordOf("x= 1;"), 5), false);
        bench.due("type of a tab", flow.type('\t', 1), false);
        bench.due("type of a line's end", flow.type('\n', 1), false);
        bench.dueThrow("compile(): nothing is on the tape", () -> flow.compile(), IllegalArgumentException.class);
        bench.due("fault()", flow.fault(), 0);
    }

    // ---- FAULTS

    /** "the first character that can't stand there" */
    private static void theFirstCharacterThatCantStandThere() {
        bench.dueFault("x=?;y=?;", 2);
        bench.dueFault("x=1/0+x^5;", 4);
        bench.dueFault("x=x^5+1/0;", 4);
        bench.dueFault("x=xxxxxxx+1/0;", 8);
        bench.dueFault("x=1/0+xxxxxxx", 4);
        bench.dueFault("x=1;y=1?z=1", 7);
        bench.dueFault("!", 0);
        bench.dueFault("x=1;~", 4);
        // Every character that can be typed and can't stand where a TERM must begin.
        for (char c = 33; c <= 126; c++) {
            if ("-0123456789xyz".indexOf(c) < 0) {
                bench.dueFault("x=" + c + "1;", 2);
            }
        }
    }

    /** "the tape's length, if one is missing": of each beginning of a problem something is missing. */
    private static void theTapesLengthIfOneIsMissing() {
        String tape = "x=-12/34x^2x+x;y=x-1/9;z=1;g=xyz^3-y;";
        for (int length = 0; length < tape.length(); length++) {
            String part = tape.substring(0, length);
            if (part.endsWith(";")) {
                bench.dueGood(part, part.split(";").length);
            } else {
                bench.dueFault(part, length);
            }
        }
        bench.dueGood(tape, 3);
    }

    /** "a letter of which there is no SIDE (of the whole problem): that" */
    private static void aLetterOfWhichThereIsNoSide() {
        bench.dueGood("x=y;y=1;", 2);
        bench.dueGood("x=z;y=1;z=1;", 3);
        bench.dueFault("x=y;", 2);
        bench.dueFault("x=z;", 2);
        bench.dueFault("x=z;y=1;", 2);
        bench.dueFault("x=1;y=z;", 6);
        bench.dueFault("x=1;g=y;", 6);
        bench.dueFault("x=1;y=1;g=xyz;", 12);
        bench.dueFault("x=x+3/4xy^2;", 8);
        bench.dueFault("x=z+y;", 2);
        bench.dueFault("x=y+z;", 2);
        bench.dueFault("x=x;y=y;g=z+z;", 10);
        bench.dueFault("x=1+z;y=z;", 4);
    }

    /** "Letters without a SIDE are told behind all others." */
    private static void lettersWithoutASideAreToldLast() {
        bench.dueFault("x=y", 3);
        bench.dueFault("x=y;?", 4);
        bench.dueFault("x=y+1/0;", 6);
        bench.dueFault("x=y^5;", 4);
        bench.dueFault("x=y^0;", 4);
        bench.dueFault("x=yyyyyyy;", 8);
        bench.dueFault("x=y^4z^3;", 7);
        bench.dueFault("x=y+1+1+1+1+1+1+1+1+1+1+1+1;", 25);
        bench.dueFault("x=y;g=z", 7);
        bench.dueFault("x=z;y=z;z", 9);
        bench.dueFault("x=y;z=1;", 4);
    }

    // ---- a TERM's number and THE VALUE

    /** "n / m: low n * 2^20 / m downwards, high upwards; with a - the other way round, both negative" */
    private static void aTermsNumberIsRoundedOutward() {
        bench.dueValue("x=1/3;", ends(), 349525, 349526);
        bench.dueValue("x=-1/3;", ends(), -349526, -349525);
        bench.dueValue("x=0-1/3;", ends(), -349526, -349525);
        bench.dueValue("x=1/2;", ends(), ONE / 2, ONE / 2);
        bench.dueValue("x=-1/64;", ends(), -ONE / 64, -ONE / 64);
        bench.dueValue("x=1/99;", ends(), 10591, 10592);
        bench.dueValue("x=-1/99;", ends(), -10592, -10591);
        bench.dueValue("x=999;", ends(), 999 * ONE, 999 * ONE);
        bench.dueValue("x=-999;", ends(), -999 * ONE, -999 * ONE);
        bench.dueValue("x=999/98;", ends(), 10689055, 10689056);
        bench.dueValue("x=-999/7;", ends(), -149646775, -149646774);
        bench.dueValue("x=007/07;", ends(), ONE, ONE);
        bench.dueValue("x=0;", ends(), 0, 0);
        bench.dueValue("x=-0/7;", ends(), 0, 0);
        bench.dueValue("x=-1/2+1/3-1/4;", ends(), -436907, -436906);
    }

    /** "1 without a NUMBER" */
    private static void aTermsNumberIsOneWithoutANumber() {
        bench.dueValue("x=x;", ends(-5, 7), -5, 7);
        bench.dueValue("x=-x;", ends(-5, 7), -7, 5);
        bench.dueValue("x=2-x;", ends(ONE, ONE), ONE, ONE);
    }

    /** "0, then TERM by TERM, as they stand": what is beyond the LIMIT on the way depends on their order. */
    private static void valueGoesTermByTerm() {
        bench.dueValueBeyond("x=x+x-x;", LIMIT, LIMIT);
        bench.dueValue("x=x-x+x;", ends(LIMIT, LIMIT), LIMIT, LIMIT);
        bench.dueValue("x=-x+x+x;", ends(LIMIT, LIMIT), LIMIT, LIMIT);
        bench.dueValueBeyond("x=-x-x+x;", LIMIT, LIMIT);
        bench.dueValueBeyond("x=1/2x-x;", -LIMIT, LIMIT);
        bench.dueValue("x=1/2x-1/2x;", ends(-LIMIT, LIMIT), -LIMIT, LIMIT);
        bench.dueValueBeyond("x=x^2-x^2;", 40 * ONE, 40 * ONE);
        bench.dueValueBeyond("x=2x-2x;", LIMIT, LIMIT);
    }

    /** "its number, TIMES the interval of each of its letters, those of x first, then of y, of z" */
    private static void valueTakesTheLettersOfXFirst() {
        // A half of one unit is rounded to 0 .. 1 before the 4 comes; the 4 first would make 2 .. 2.
        bench.dueValue("x=1/2xy;y=0;", ends(1, 1, 4 * ONE, 4 * ONE), 0, 4);
        bench.dueValue("x=1/2yx;y=0;", ends(1, 1, 4 * ONE, 4 * ONE), 0, 4);
        bench.dueValue("x=1/2yx;y=0;", ends(4 * ONE, 4 * ONE, 1, 1), 2, 2);
        bench.dueValue("x=1/2xz;y=0;z=0;", ends(1, 1, 0, 0, 4 * ONE, 4 * ONE), 0, 4);
        bench.dueValue("x=1/2zx;y=0;z=0;", ends(1, 1, 0, 0, 4 * ONE, 4 * ONE), 0, 4);
        bench.dueValue("x=1/2zy;y=0;z=0;", ends(0, 0, 1, 1, 4 * ONE, 4 * ONE), 0, 4);
        bench.dueValue("x=1/2zy;y=0;z=0;", ends(0, 0, 4 * ONE, 4 * ONE, 1, 1), 2, 2);
        bench.dueValue("x=yx^2;y=0;", ends(1, 1, LIMIT, LIMIT), 0, 1024);
        // What is beyond the LIMIT on the way counts, and a number that is 0 keeps all below it.
        bench.dueValueBeyond("x=yx^2;y=0;", 40 * ONE, 40 * ONE, 1, 1);
        bench.dueValue("x=0x^4x^2;", ends(-LIMIT, LIMIT), 0, 0);
    }

    /** A square is TIMES of an interval with itself, and is not known to be above 0. */
    private static void valueSquaresByTimes() {
        bench.dueValue("x=x^2;", ends(-ONE, 2 * ONE), -2 * ONE, 4 * ONE);
        bench.dueValue("x=x^3;", ends(-ONE, 2 * ONE), -4 * ONE, 8 * ONE);
        bench.dueValue("x=x^2;", ends(0, 2 * ONE), 0, 4 * ONE);
    }

    // ---- SERIES and THE COEFFICIENTS

    /** "SUM of what there is and (number j of the first one TIMES number k - j of the second one)" */
    private static void productsOfSeriesAreRoundedOneByOne() {
        // Four products of 1.6 units: each is rounded to 1 .. 2, and the SUM is halved.
        BoxFlow flow = bench.flowOf("x=y^2+y^2;y=z;z=0;");
        bench.begin(flow, 0, 0, 1296, 1296, 1296, 1296);
        bench.dueCoefficient(flow, 0, 1, 2, 4);
        bench.dueCoefficient(flow, 0, 2, 2, 4);
        BoxFlow squared = bench.flowOf("x=x^2;");
        bench.begin(squared, ONE, ONE);
        for (int k = 0; k <= 9; k++) {
            bench.dueCoefficient(squared, 0, k, ONE, ONE);
        }
        // x is 1 / (1 - 2t)^1/2 if x' = x^3: 1, 1, 3/2, 5/2, 35/8, 63/8.
        BoxFlow cubed = bench.flowOf("x=x^3;");
        bench.begin(cubed, ONE, ONE);
        int[] eighths = {8, 8, 12, 20, 35, 63};
        for (int k = 0; k < eighths.length; k++) {
            bench.dueCoefficient(cubed, 0, k, eighths[k] * (ONE / 8), eighths[k] * (ONE / 8));
        }
    }

    /**
     * "for j = 0, 1, .. k SUM of what there is": what is beyond the LIMIT on the way depends on their order, and on which
     * one is the first. Numbers 0 .. 2 of y and z are 4, 32, 128 (the first one perhaps negative).
     */
    private static void productsOfSeriesGoFromNumberZeroOn() {
        // 512 + 1024 - 512
        BoxFlow beyond = bench.flowOf("x=yz;y=8y;z=8z+64;");
        bench.begin(beyond, 0, 0, 4 * ONE, 4 * ONE, -4 * ONE, -4 * ONE);
        bench.dueCoefficient(beyond, 0, 2, 0, 0);
        bench.dueCoefficient(beyond, 1, 2, 128 * ONE, 128 * ONE);
        bench.dueCoefficient(beyond, 2, 2, 128 * ONE, 128 * ONE);
        bench.dueNoCoefficient(beyond, 0, 3, ArithmeticException.class);
        // -512 + 1024 + 512; a z that stands ahead of the y is the second one all the same.
        for (String tape : new String[] {"x=yz;y=8y+64;z=8z;", "x=zy;y=8y+64;z=8z;"}) {
            BoxFlow flow = bench.flowOf(tape);
            bench.begin(flow, 0, 0, -4 * ONE, -4 * ONE, 4 * ONE, 4 * ONE);
            bench.dueCoefficient(flow, 0, 2, 0, 0);
            bench.dueCoefficient(flow, 0, 3, LIMIT / 3, LIMIT / 3 + 1);
        }
    }

    /** "as its VALUE, with PRODUCTS instead of TIMES": numbers behind 0 too are added TERM by TERM, as they stand. */
    private static void seriesGoTermByTerm() {
        String[] tapes = {"x=y-y+y;", "x=-y+y+y;", "x=y+y-y;", "x=-y-y+y;"};
        for (int i = 0; i < tapes.length; i++) {
            BoxFlow flow = bench.flowOf(tapes[i] + "y=z;z=0;");
            bench.begin(flow, 0, 0, 0, 0, LIMIT, LIMIT);
            bench.dueCoefficient(flow, 0, 1, 0, 0);
            if (i < 2) {
                bench.dueCoefficient(flow, 0, 2, LIMIT / 2, LIMIT / 2);
            } else {
                bench.dueNoCoefficient(flow, 0, 2, ArithmeticException.class);
            }
        }
    }

    /** "a TERM's number being the SERIES of it and 0, 0, .." */
    private static void aNumbersSeriesIsZeroBehindIt() {
        BoxFlow flow = bench.flowOf("x=1/3;");
        bench.dueCoefficient(flow, 0, 1, 349525, 349526);
        BoxFlow several = bench.flowOf("x=5-1/7+1/9-3;");
        for (int k = 2; k <= 9; k++) {
            bench.dueCoefficient(flow, 0, k, 0, 0);
            bench.dueCoefficient(several, 0, k, 0, 0);
        }
    }

    /** "number k + 1 is (number k of its SIDE over the letters' SERIES) OVER (k + 1)" */
    private static void coefficientsAreDividedOneByOne() {
        // x is e^(t^2/2): 1, 0, 1/2, 0, 1/8, 0, 1/48, 0, 1/384, 0.
        BoxFlow flow = bench.flowOf("x=xy;y=1;");
        bench.begin(flow, ONE, ONE);
        int[] lows = {ONE, 0, ONE / 2, 0, ONE / 8, 0, 21845, 0, 2730, 0};
        int[] highs = {ONE, 0, ONE / 2, 0, ONE / 8, 0, 21846, 0, 2731, 0};
        for (int k = 0; k <= 9; k++) {
            bench.dueCoefficient(flow, 0, k, lows[k], highs[k]);
        }
    }

    private static void coefficientsOfSeveralLetters() {
        // x is the sine: 0, 1, 0, -1/6, 0, 1/120.
        BoxFlow flow = bench.flowOf("x=y;y=-x;");
        bench.begin(flow, 0, 0, ONE, ONE);
        int[] lows = {0, ONE, 0, -174763, 0, 8738};
        int[] highs = {0, ONE, 0, -174762, 0, 8739};
        for (int k = 0; k < lows.length; k++) {
            bench.dueCoefficient(flow, 0, k, lows[k], highs[k]);
        }
        // z is 6t, y is 3t^2, x is t^3.
        BoxFlow three = bench.flowOf("x=y;y=z;z=6;");
        bench.dueCoefficient(three, 0, 3, ONE, ONE);
        bench.dueCoefficient(three, 1, 2, 3 * ONE, 3 * ONE);
        bench.dueCoefficient(three, 2, 1, 6 * ONE, 6 * ONE);
    }
}
