import java.util.Random;

/** FACTORS, DETERMINANT, SOLUTION, INVERSE by rests, promises 17 to 25: sentence by sentence. */
final class EdgesOfRests {
    private static final int NONE = -1, OUTSIDE = -100001, NOT = -100002;
    private static final int LOWEST = Integer.MIN_VALUE, HIGHEST = Integer.MAX_VALUE;
    private static final int[] PRIMES = {2, 3, 10007, 46337};
    private final Sentences s;

    EdgesOfRests(Sentences sentences) {
        s = sentences;
    }

    void run() {
        primeBounds();
        restsFromNought();
        putByOrder();
        pivots();
        stopIsItsNode();
        leftTimesUpper();
        determinantWithoutFactors();
        solutionsCheck();
        inversesCheck();
        ranksByRests();
        prime();
        stop();
        factor();
        factorRefusals();
        full();
        determinant();
        rank();
        solution();
        inverse();
        changed();
    }

    private void primeBounds() {
        s.of("Terms 4", "P is a prime (2 .. 46337; 10007 at first).");
        ThinTables x = new ThinTables();
        s.is("at first", x.count(8), 10007);
        s.is("the least", x.prime(2), 10007);
        s.is("the greatest", x.prime(46337), 2);
        s.each("too small", OUTSIDE, x::prime, 1, 0, -2, -3);
        s.each("too large, though a prime", OUTSIDE, x::prime, 46349, 65537, 1000003, HIGHEST);
        s.is("as it was", x.count(8), 46337);
    }

    private void restsFromNought() {
        s.of("Terms 4", "RESTS are 0 to P - 1.");
        int[][] dues = {{2, -99, 1}, {2, 98, 0}, {2, -98, 0}, {3, -99, 0}, {3, -98, 1}, {97, -99, 95}, {97, 97, 0},
                {97, -97, 0}, {97, 98, 1}, {101, 99, 99}, {101, -1, 100}, {46337, -1, 46336}, {46337, -99, 46238},
                {46337, 99, 99}, {10007, -99, 9908}};
        for (int[] due : dues) {
            ThinTables x = Made.diagonal(1, due[1]);
            x.prime(due[0]);
            s.is("rest of " + due[1] + " by " + due[0], x.determinant(), due[2]);
            s.is("the same of " + due[1] + " by " + due[0] + ", changed", x.changed(0, 0, due[1]), due[2]);
        }
        ThinTables y = Made.diagonal(1, 1);
        y.side(0, -99);
        s.is("of THE SIDE", y.solution(0), 9908);
    }

    private void putByOrder() {
        s.of("Terms 4", "FACTORS: rows and columns are put by THE ORDER (both alike);");
        ThinTables x = Made.table(Made.row(0, 2), Made.row(3, 1));
        s.is("as they are: nothing stands at (0, 0)", x.stop(), 0);
        x.change(0, 1);
        s.is("turned: 1 stands first", x.stop(), NONE);
        s.is("first pivot", x.factor(1, 1, 1), 1);
        s.is("row of 1", x.factor(1, 0, 1), 3);
        s.is("column of 1", x.factor(0, 1, 0), 2);
        s.is("0 - 2 * 3", x.factor(0, 0, 1), 10001);
    }

    private void pivots() {
        s.of("Terms 4", "by rests of P, without changing rows: pivot k is what stands there when all before have "
                + "been taken away;");
        ThinTables x = Made.table(Made.row(1, 1, 0), Made.row(1, 1, 1), Made.row(0, 1, 1));
        s.is("nothing is left at (1, 1), and no row is changed for it", x.stop(), 1);
        s.is("though DETERMINANT is not 0", x.determinant(), 10006);
        ThinTables y = Made.table(Made.row(2, 1, 0), Made.row(4, 5, 1), Made.row(0, 6, 7));
        int[] pivots = {2, 3, 5};
        for (int k = 0; k < 3; k++) {
            s.is("pivot " + k, y.factor(k, k, 1), pivots[k]);
        }
        y.prime(3);
        s.is("by rests of 3 the second one is 0", y.stop(), 1);
        y.prime(2);
        s.is("by rests of 2 the first one is 0", y.stop(), 0);
        y.prime(5);
        s.is("by rests of 5 the third one is 0", y.stop(), 2);
    }

    private void stopIsItsNode() {
        s.of("Terms 4", "if one is 0 there are no FACTORS, and THE STOP is its NODE.");
        ThinTables x = Made.diagonal(20, 1);
        s.is("none is 0", x.stop(), NONE);
        x.set(19, 19, 0);
        s.is("the last one is 0", x.stop(), 19);
        s.is("then there are none", x.factor(0, 0, 0), NOT);
        x.set(7, 7, 0);
        s.is("of two the first", x.stop(), 7);
        x.change(7, 19);
        s.is("of two the first in THE ORDER, by its NODE", x.stop(), 19);
        x.change(0, 19);
        s.is("NODE 7 is first now", x.stop(), 7);
    }

    /** LEFT and UPPER of n rows with small numbers; their product is THE TABLE, put by an order of chance. */
    private static final class Product {
        private final int n;
        private final int[][] left;
        private final int[][] upper;
        private final int[] order;
        private final int[] partners;

        Product(int n, boolean dense, long seed) {
            this.n = n;
            Random chance = new Random(seed);
            left = new int[n][n];
            upper = new int[n][n];
            order = new int[n];
            partners = new int[n];
            for (int k = 0; k < n; k++) {
                order[k] = k;
                for (int m = 0; m < k; m++) {
                    left[k][m] = dense ? 1 : chance.nextInt(3) - 1;
                    upper[m][k] = dense ? 1 : chance.nextInt(3) - 1;
                }
                left[k][k] = 1;
                upper[k][k] = dense || chance.nextBoolean() ? 1 : -1;
            }
            for (int k = 0; k < n; k++) {
                partners[k] = chance.nextInt(n);
                int kept = order[k];
                order[k] = order[partners[k]];
                order[partners[k]] = kept;
            }
        }

        int cell(int i, int j) {
            int sum = 0;
            for (int k = 0; k < n; k++) {
                sum += left[i][k] * upper[k][j];
            }
            return sum;
        }

        ThinTables object(int p) {
            ThinTables x = Made.sized(n);
            x.prime(p);
            for (int k = 0; k < n * n; k++) {
                x.set(order[k / n], order[k % n], cell(k / n, k % n));
            }
            for (int k = 0; k < n; k++) {
                x.change(k, partners[k]);
            }
            return x;
        }

        int pivotProduct() {
            int product = 1;
            for (int k = 0; k < n; k++) {
                product *= upper[k][k];
            }
            return product;
        }
    }

    private void leftTimesUpper() {
        s.of("Terms 4", "LEFT has 1 in like places and 0 above these, UPPER 0 below them, and LEFT times UPPER is "
                + "THE TABLE as it is put.");
        for (int p : PRIMES) {
            for (int n : new int[] {1, 2, 3, 7, 13}) {
                allFactors(new Product(n, false, 31L * n + p), p);
            }
            aRowOfFactors(new Product(20, false, p), p);
        }
    }

    private void allFactors(Product due, int p) {
        ThinTables x = due.object(p);
        s.is(due.n + " rows by " + p + ": there are FACTORS", x.stop(), NONE);
        for (int k = 0; k < due.n; k++) {
            for (int m = 0; m < due.n && due.n < 13; m++) {
                s.is("LEFT by " + p, x.factor(due.order[k], due.order[m], 0), Math.floorMod(due.left[k][m], p));
                s.is("UPPER by " + p, x.factor(due.order[k], due.order[m], 1), Math.floorMod(due.upper[k][m], p));
            }
        }
        s.is(due.n + " rows by " + p + ": determinant", x.determinant(), Math.floorMod(due.pivotProduct(), p));
    }

    /** With 20 rows an object's calls suffice for a few rows of FACTORS. */
    private void aRowOfFactors(Product due, int p) {
        for (int k : new int[] {0, 10, 19}) {
            ThinTables x = due.object(p);
            for (int m = 0; m < 20; m += 1 + m % 2) {
                s.is("LEFT of 20 by " + p, x.factor(due.order[k], due.order[m], 0), Math.floorMod(due.left[k][m], p));
                s.is("UPPER of 20 by " + p, x.factor(due.order[k], due.order[m], 1),
                        Math.floorMod(due.upper[k][m], p));
            }
        }
    }

    private void determinantWithoutFactors() {
        s.of("Terms 4", "DETERMINANT: that of THE TABLE, by rests (whether there are FACTORS or not).");
        ThinTables x = Made.table(Made.row(0, 2), Made.row(3, 0));
        s.is("there are none", x.stop(), 0);
        s.is("-6", x.determinant(), 10001);
        x.change(0, 1);
        s.is("none in the other order", x.stop(), 1);
        s.is("-6 in the other order", x.determinant(), 10001);
        x.set(0, 0, 1);
        x.set(1, 1, 1);
        s.is("there are FACTORS", x.stop(), NONE);
        s.is("1 - 6", x.determinant(), 10002);
    }

    private void solutionsCheck() {
        s.of("Terms 4", "SOLUTION: x with THE TABLE times x as THE SIDE, by rests of P.");
        for (int p : PRIMES) {
            for (int n : new int[] {1, 2, 5, 20}) {
                ThinTables x = new Product(n, false, 7L * n + p).object(p);
                int[] solution = new int[n];
                for (int i = 0; i < n; i++) {
                    x.side(i, 99 - 10 * i);
                }
                for (int i = 0; i < n; i++) {
                    solution[i] = x.solution(i);
                    s.holds("a rest by " + p, solution[i] >= 0 && solution[i] < p);
                }
                Product same = new Product(n, false, 7L * n + p);
                for (int k = 0; k < n; k++) {
                    long sum = 0;
                    for (int m = 0; m < n; m++) {
                        sum += (long) same.cell(k, m) * solution[same.order[m]];
                    }
                    s.is("row " + k + " of " + n + " by " + p, Math.floorMod(sum, p),
                            Math.floorMod(99 - 10 * same.order[k], p));
                }
            }
        }
    }

    private void inversesCheck() {
        s.of("Terms 4", "INVERSE: the table that times THE TABLE is 1 in like places and 0 else.");
        for (int p : PRIMES) {
            for (int n : new int[] {1, 2, 5, 12}) {
                Product due = new Product(n, false, 13L * n + p);
                ThinTables x = due.object(p);
                int[][] inverse = new int[n][n];
                for (int k = 0; k < n * n; k++) {
                    inverse[k / n][k % n] = x.inverse(due.order[k / n], due.order[k % n]);
                }
                for (int k = 0; k < n * n; k++) {
                    long ahead = 0;
                    long behind = 0;
                    for (int m = 0; m < n; m++) {
                        ahead += (long) inverse[k / n][m] * due.cell(m, k % n);
                        behind += (long) due.cell(k / n, m) * inverse[m][k % n];
                    }
                    int one = k / n == k % n ? 1 : 0;
                    s.is("INVERSE times THE TABLE, by " + p, Math.floorMod(ahead, p), one);
                    s.is("THE TABLE times INVERSE, by " + p, Math.floorMod(behind, p), one);
                }
            }
        }
    }

    private void ranksByRests() {
        s.of("Terms 4", "RANK by rests: how many rows are left that are not 0, when rows are taken from one another.");
        s.is("no PLACES", Made.sized(20).rank(), 0);
        s.is("all rows alike", Made.dense(20, 99).rank(), 1);
        s.is("no two alike", Made.diagonal(20, -99).rank(), 20);
        ThinTables x = Made.table(Made.row(1, 2, 3), Made.row(4, 5, 6), Made.row(7, 8, 9));
        s.is("a row that two others make", x.rank(), 2);
        x.prime(3);
        s.is("by 3 each row is the first one", x.rank(), 1);
        s.is("a column of 0 first", Made.graph(3, 0, 1, 1, 2).rank(), 2);
        s.is("in the last column alone", Made.graph(3, 0, 2, 1, 2, 2, 2).rank(), 1);
    }

    private void prime() {
        s.of("Promise 17", "P becomes a prime: what it was.");
        ThinTables x = new ThinTables();
        s.is("10007 at first", x.prime(3), 10007);
        s.is("the same again", x.prime(3), 3);
        s.is("the greatest", x.prime(46337), 3);
        s.is("the least", x.prime(2), 46337);
        s.is("count tells it", x.count(8), 2);
        x.size(20);
        s.is("size leaves it", x.count(8), 2);
        s.of("Promise 17", "OUTSIDE (no prime, too).");
        s.each("prime", OUTSIDE, x::prime, 1, 0, -1, -2, 4, 9, 46336, 46338, 46339, 46349, LOWEST, HIGHEST);
        boolean[] made = new boolean[46340];
        for (int p = 2; p < made.length; p++) {
            boolean isPrime = !made[p];
            for (int more = 2 * p; isPrime && more < made.length; more += p) {
                made[more] = true;
            }
            s.is("prime " + p, new ThinTables().prime(p), isPrime && p <= 46337 ? 10007 : OUTSIDE);
        }
    }

    private void stop() {
        s.of("Promise 18", "THE STOP; NONE: there are FACTORS.");
        s.is("n is 1, 0", Made.sized(1).stop(), 0);
        s.is("n is 1, not 0", Made.diagonal(1, -99).stop(), NONE);
        ThinTables x = Made.diagonal(1, 7);
        x.prime(7);
        s.is("n is 1, 0 by rests", x.stop(), 0);
        s.is("new", new ThinTables().stop(), 0);
        s.is("20 rows", Made.diagonal(20, 1).stop(), NONE);
        s.is("the last pivot alone", Made.dense(2, 1).stop(), 1);
    }

    private void factor() {
        s.of("Promise 19", "FACTORS by NODES i, j: LEFT (what = 0; 1 where i and j are one) where i does not come "
                + "ahead of j in THE ORDER, else 0;");
        ThinTables x = Made.table(Made.row(5, 3), Made.row(10, 7));
        s.is("like places", x.factor(0, 0, 0), 1);
        s.is("like places", x.factor(1, 1, 0), 1);
        s.is("1 comes behind 0", x.factor(1, 0, 0), 2);
        s.is("0 comes ahead of 1", x.factor(0, 1, 0), 0);
        s.of("Promise 19", "UPPER (1) where i does not come behind j, else 0.");
        s.is("pivot", x.factor(0, 0, 1), 5);
        s.is("pivot", x.factor(1, 1, 1), 1);
        s.is("0 comes ahead of 1", x.factor(0, 1, 1), 3);
        s.is("1 comes behind 0", x.factor(1, 0, 1), 0);
        x.change(0, 1);
        x.prime(11);
        // 7 stands first now; 3 / 7 is 2 by rests of 11
        s.is("other order: LEFT, 0 comes behind", x.factor(0, 1, 0), 2);
        s.is("other order: LEFT, 1 comes ahead", x.factor(1, 0, 0), 0);
        s.is("other order: UPPER, 1 comes ahead", x.factor(1, 0, 1), 10);
        s.is("other order: UPPER, 0 comes behind", x.factor(0, 1, 1), 0);
        s.of("Promise 19", "(LEFT times UPPER is THE TABLE.)");
        for (int k = 0; k < 4; k++) {
            int sum = x.factor(k / 2, 0, 0) * x.factor(0, k % 2, 1) + x.factor(k / 2, 1, 0) * x.factor(1, k % 2, 1);
            s.is("cell " + k, sum % 11, x.cell(k / 2, k % 2) % 11);
        }
    }

    private void factorRefusals() {
        s.of("Promise 19", "OUTSIDE; NOT: there are none.");
        ThinTables x = Made.diagonal(20, 1);
        s.each("row", OUTSIDE, i -> x.factor(i, 0, 0), -1, 20, 32, LOWEST, HIGHEST);
        s.each("column", OUTSIDE, j -> x.factor(0, j, 1), -1, 20, 32, LOWEST, HIGHEST);
        s.each("what", OUTSIDE, what -> x.factor(0, 0, what), -1, 2, 32, LOWEST, HIGHEST);
        x.set(19, 19, 0);
        s.is("no FACTORS, a cell that would be there", x.factor(0, 0, 0), NOT);
        s.is("no FACTORS, a cell that would be 0", x.factor(0, 1, 0), NOT);
        s.each("no FACTORS, OUTSIDE comes first", OUTSIDE, what -> x.factor(0, 0, what), -1, 2);
    }

    private void full() {
        s.of("Promise 20", "How many cells of LEFT and UPPER that are not in like places are not 0.");
        s.is("none", Made.diagonal(20, 5).full(), 0);
        s.is("n is 1", Made.diagonal(1, 5).full(), 0);
        s.is("all", new Product(20, true, 1).object(10007).full(), 380);
        s.is("LEFT alone", Made.table(Made.row(1, 0), Made.row(1, 1)).full(), 1);
        s.is("UPPER alone", Made.table(Made.row(1, 1), Made.row(0, 1)).full(), 1);
        ThinTables x = Made.table(Made.row(1, 7), Made.row(7, 1));
        s.is("both", x.full(), 2);
        x.prime(7);
        s.is("PLACES that are 0 by rests", x.full(), 0);
        // what stands at (1, 2) is taken away just so
        s.is("a cell that becomes 0", Made.table(Made.row(1, 1, 1), Made.row(1, 2, 1), Made.row(0, 0, 1)).full(), 3);
        s.is("a cell that was 0", Made.table(Made.row(1, 0, 1), Made.row(1, 2, 0), Made.row(0, 0, 1)).full(), 3);
        s.of("Promise 20", "NOT: there are none.");
        s.is("a pivot of 0", Made.sized(20).full(), NOT);
        s.is("the last pivot of 0", Made.dense(2, 1).full(), NOT);
        x.set(0, 0, 7);
        s.is("0 by rests", x.full(), NOT);
    }

    private void determinant() {
        s.of("Promise 21", "DETERMINANT of THE TABLE by rests.");
        s.is("no PLACES", Made.sized(20).determinant(), 0);
        s.is("n is 1", Made.diagonal(1, -1).determinant(), 10006);
        s.is("rows alike", Made.dense(20, 1).determinant(), 0);
        ThinTables x = Made.diagonal(20, 1);
        s.is("1", x.determinant(), 1);
        // rows 0 and 19 changed
        x.set(0, 0, 0);
        x.set(19, 19, 0);
        x.set(0, 19, 1);
        x.set(19, 0, 1);
        s.is("two rows changed", x.determinant(), 10006);
        x.prime(2);
        s.is("the least P", x.determinant(), 1);
        s.is("a ring of 20 is an odd change", Made.ring(20).determinant(), 10006);
        s.is("a ring of 19 is an even change", Made.ring(19).determinant(), 1);
        long product = 1;
        for (int k = 0; k < 20; k++) {
            product = product * 99 % 46337;
        }
        ThinTables great = Made.diagonal(20, 99);
        great.prime(46337);
        s.is("99 twenty times", great.determinant(), product);
        great.prime(11);
        s.is("0 by rests, though no PLACE is missing", great.determinant(), 0);
    }

    private void rank() {
        s.of("Promise 22", "RANK by rests.");
        s.is("least", Made.sized(1).rank(), 0);
        s.is("n is 1", Made.diagonal(1, 1).rank(), 1);
        ThinTables x = Made.diagonal(20, 7);
        s.is("most", x.rank(), 20);
        x.prime(7);
        s.is("all 0 by rests", x.rank(), 0);
        s.is("RANK of PLACES is another", x.count(2), 20);
        x.set(19, 0, 1);
        s.is("one row that is not 0", x.rank(), 1);
        ThinTables signs = Made.table(Made.row(1, 1), Made.row(1, -1));
        signs.prime(2);
        s.is("-1 is 1 by 2", signs.rank(), 1);
    }

    private void solution() {
        s.of("Promise 23", "SOLUTION i.");
        ThinTables x = Made.diagonal(20, 2);
        x.side(0, 1);
        x.side(19, -2);
        s.is("the first: 1 / 2", x.solution(0), 5004);
        s.is("between: 0", x.solution(10), 0);
        s.is("the last: -1", x.solution(19), 10006);
        ThinTables turned = Made.table(Made.row(0, 1), Made.row(1, 0));
        Made.side(turned, 3, 4);
        s.is("without FACTORS, too", turned.solution(0), 4);
        s.is("without FACTORS, too", turned.solution(1), 3);
        s.of("Promise 23", "OUTSIDE; NOT: DETERMINANT is 0.");
        s.each("number", OUTSIDE, x::solution, -1, 20, 32, LOWEST, HIGHEST);
        x.prime(2);
        s.is("DETERMINANT is 0 by rests", x.solution(0), NOT);
        s.each("OUTSIDE comes first", OUTSIDE, x::solution, -1, 20);
        s.is("THE SIDE is 0, too: still NOT", Made.dense(2, 1).solution(0), NOT);
    }

    private void inverse() {
        s.of("Promise 24", "A cell of INVERSE.");
        ThinTables x = Made.diagonal(20, -1);
        x.set(0, 19, 5);
        s.is("like places", x.inverse(19, 19), 10006);
        s.is("(0, 19): -5", x.inverse(0, 19), 10002);
        s.is("(19, 0)", x.inverse(19, 0), 0);
        ThinTables turned = Made.ring(3);
        s.is("without FACTORS: turned back", turned.inverse(1, 0), 1);
        s.is("without FACTORS: not as it is", turned.inverse(0, 1), 0);
        x.side(0, 50);
        s.is("THE SIDE does not matter", x.inverse(0, 19), 10002);
        s.of("Promise 24", "OUTSIDE; NOT: DETERMINANT is 0.");
        s.each("row", OUTSIDE, i -> x.inverse(i, 0), -1, 20, 32, LOWEST, HIGHEST);
        s.each("column", OUTSIDE, j -> x.inverse(0, j), -1, 20, 32, LOWEST, HIGHEST);
        x.set(19, 19, 0);
        s.is("DETERMINANT is 0", x.inverse(0, 0), NOT);
        s.each("OUTSIDE comes first", OUTSIDE, i -> x.inverse(0, i), -1, 20);
        ThinTables five = Made.diagonal(2, 5);
        five.prime(5);
        s.is("DETERMINANT is 0 by rests", five.inverse(0, 0), NOT);
    }

    private void changed() {
        s.of("Promise 25", "What DETERMINANT would be, if CELL (i, j) were v.");
        ThinTables x = Made.diagonal(20, 1);
        s.is("the least v", x.changed(19, 19, -99), 9908);
        s.is("the greatest v", x.changed(19, 19, 99), 99);
        s.is("as it is", x.changed(0, 0, 1), 1);
        s.is("to 0", x.changed(0, 0, 0), 0);
        s.is("where it does not matter", x.changed(0, 19, 99), 1);
        s.is("nothing is changed", x.cell(19, 19), 1);
        s.is("DETERMINANT is as it was", x.determinant(), 1);
        x.set(7, 7, 0);
        s.is("DETERMINANT is 0 now, would be 5", x.changed(7, 7, 5), 5);
        s.is("would be 0 still", x.changed(8, 8, 5), 0);
        s.is("n is 1", Made.sized(1).changed(0, 0, -1), 10006);
        s.is("(i, j), not (j, i)", Made.table(Made.row(1, 0), Made.row(2, 1)).changed(0, 1, 3), 10002);
        s.of("Promise 25", "OUTSIDE.");
        s.each("row", OUTSIDE, i -> x.changed(i, 0, 1), -1, 20, 32, LOWEST, HIGHEST);
        s.each("column", OUTSIDE, j -> x.changed(0, j, 1), -1, 20, 32, LOWEST, HIGHEST);
        s.each("value", OUTSIDE, v -> x.changed(0, 0, v), -100, 100, LOWEST, HIGHEST);
    }
}
