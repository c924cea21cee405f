/** Promise 26, what is solved by fractions: sentence by sentence. */
final class EdgesOfFractions {
    private static final int OUTSIDE = -100001, NOT = -100002;
    private static final int LOWEST = Integer.MIN_VALUE, HIGHEST = Integer.MAX_VALUE;
    private static final long FIFTH_POWER = 99L * 99 * 99 * 99 * 99;
    private final Sentences s;

    EdgesOfFractions(Sentences sentences) {
        s = sentences;
    }

    void run() {
        atMostFive();
        upperAndLower();
        leastTerms();
        greatNumbers();
        determinant();
        outside();
        notNow();
        asARefusalIs();
    }

    private void value(String what, ThinTables x, int i, long upper, long lower) {
        s.is(what + ": upper", x.exact(i, 0), upper);
        s.is(what + ": lower", x.exact(i, 1), lower);
    }

    private void atMostFive() {
        s.of("Promise 26", "For n at most 5:");
        for (int n = 1; n <= 5; n++) {
            ThinTables x = Made.diagonal(n, 2);
            x.side(n - 1, 1);
            value("the last of " + n, x, n - 1, 1, 2);
            s.is("determinant of " + n, x.exact(0, 2), 1L << n);
        }
        for (int n = 6; n <= 20; n++) {
            s.is("determinant of " + n, Made.diagonal(n, 2).exact(0, 2), NOT);
        }
    }

    private void upperAndLower() {
        s.of("Promise 26", "what = 0 the upper, 1 the lower number of value i of the SOLUTION by fractions,");
        ThinTables x = Made.table(Made.row(0, 2, 1), Made.row(1, 0, 0), Made.row(3, 1, 4));
        Made.side(x, 5, -6, 7);
        value("a table that is not alike both ways: 0", x, 0, -6, 1);
        value("1", x, 1, -5, 7);
        value("2", x, 2, 45, 7);
        x.prime(7);
        x.change(0, 2);
        value("P and THE ORDER do not matter", x, 2, 45, 7);
    }

    private void leastTerms() {
        s.of("Promise 26", "in least terms, the lower one above 0;");
        int[][] dues = {{6, 4, 2, 3}, {-6, 4, -2, 3}, {6, -4, -2, 3}, {-6, -4, 2, 3}, {99, 99, 1, 1}, {99, -99, -1, 1},
                {-1, 1, -1, 1}, {-99, 98, -98, 99}, {7, 0, 0, 1}, {-7, 0, 0, 1}, {1, 99, 99, 1}, {-99, 1, -1, 99}};
        for (int[] due : dues) {
            ThinTables x = Made.diagonal(1, due[0]);
            x.side(0, due[1]);
            value(due[1] + " over " + due[0], x, 0, due[2], due[3]);
        }
    }

    private void greatNumbers() {
        int[] primes = {97, 89, 83, 79, 73};
        ThinTables x = Made.diagonal(5, 1);
        long product = 1;
        for (int k = 0; k < 5; k++) {
            product *= primes[k];
            x.set(k, k, primes[k]);
            if (k < 4) {
                x.set(k, k + 1, 1);
            }
        }
        x.side(4, 1);
        value("a lower number that is no int", x, 0, 1, product);
        value("the last", x, 4, 1, 73);
        value("between", x, 3, -1, 73 * 79);
    }

    private void determinant() {
        s.of("Promise 26", "2 the determinant (i is not looked at).");
        ThinTables x = Made.table(Made.row(-99, -99, -99, 99, -99), Made.row(99, -99, -99, -99, -99),
                Made.row(99, 99, -99, 99, 99), Made.row(99, -99, 99, 99, 99), Made.row(99, 99, 99, 99, -99));
        s.each("the greatest, i", 48 * FIFTH_POWER, i -> x.exact(i, 2), 0, 4, 5, -1, 99, LOWEST, HIGHEST);
        for (int j = 0; j < 5; j++) {
            x.set(0, j, -x.cell(0, j));
        }
        s.is("the least", x.exact(0, 2), -48 * FIFTH_POWER);
        s.is("0 is told", Made.dense(5, 99).exact(-1, 2), 0);
        s.is("n is 1", Made.diagonal(1, -99).exact(7, 2), -99);
        s.is("a new object", new ThinTables().exact(4, 2), 0);
    }

    private void outside() {
        s.of("Promise 26", "OUTSIDE; NOT: n is above 5;");
        ThinTables x = Made.diagonal(5, 1);
        s.each("upper of value", OUTSIDE, i -> x.exact(i, 0), -1, 5, 20, 32, LOWEST, HIGHEST);
        s.each("lower of value", OUTSIDE, i -> x.exact(i, 1), -1, 5, 20, 32, LOWEST, HIGHEST);
        s.each("what", OUTSIDE, what -> x.exact(0, what), -1, 3, 32, LOWEST, HIGHEST);
        ThinTables six = Made.diagonal(6, 1);
        s.each("n is 6: what", NOT, what -> six.exact(5, what), 0, 1, 2);
        s.each("n is 6: i is not looked at", NOT, i -> six.exact(i, 2), -1, 6, LOWEST, HIGHEST);
        s.each("n is 6: OUTSIDE comes first", OUTSIDE, i -> six.exact(i, 0), -1, 6);
        s.each("n is 6: OUTSIDE comes first", OUTSIDE, what -> six.exact(0, what), -1, 3);
    }

    private void notNow() {
        s.of("Promise 26", "of 0, 1: the determinant is 0.");
        ThinTables x = Made.dense(2, 3);
        Made.side(x, 3, 3);
        s.each("though there are solutions: what", NOT, what -> x.exact(0, what), 0, 1);
        s.each("OUTSIDE comes first", OUTSIDE, i -> x.exact(i, 0), -1, 2);
        s.is("what 2 is told all the same", x.exact(0, 2), 0);
        ThinTables seven = Made.diagonal(1, 7);
        seven.prime(7);
        seven.side(0, 3);
        value("0 by rests alone is not 0", seven, 0, 3, 7);
        s.is("while by rests it is NOT", seven.solution(0), NOT);
    }

    private void asARefusalIs() {
        s.of("Promise 26", "(What is told may be as a refusal is.)");
        for (int more = 1; more <= 2; more++) {
            ThinTables x = Made.table(Made.row(-25, 1, 0), Made.row(0, 50, 1), Made.row(-more, 0, 80));
            s.is("determinant", x.exact(0, 2), -100000 - more);
            ThinTables y = Made.table(Made.row(0, 1, 0), Made.row(0, 50, 1), Made.row(1, 0, 80));
            Made.side(y, -25, 0, -more);
            value("an upper number", y, 0, -100000 - more, 1);
        }
        s.is("NONE as a determinant", Made.diagonal(3, -1).exact(0, 2), -1);
    }
}
