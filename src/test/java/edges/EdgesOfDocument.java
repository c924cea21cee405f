import java.util.Random;

/**
 * The document's first sentence, clause by clause, and its last part. Nothing is solved here: what one call tells must
 * fit what others tell of the same table.
 */
final class EdgesOfDocument {
    private static final int NONE = -1, NOT = -100002;
    private static final int P = 46337;
    private static final int TABLES = 60;
    private final Sentences s;

    EdgesOfDocument(Sentences sentences) {
        s = sentences;
    }

    void run() {
        ranksAndHeaps();
        finestBlocks();
        ordersByDegree();
        ordersByBreadth();
        leastFillOfAll();
        treesAndCounts();
        factorsHaveThesePlaces();
        solutionsCheck();
        smallTablesByFractions();
        noCallFails();
    }

    /** Thin at first, fuller from table to table. */
    private static ThinTables byChance(int n, int k, boolean likePlaces) {
        Random chance = new Random(7000L * n + k);
        ThinTables x = Made.sized(n);
        x.prime(P);
        for (int cell = 0; cell < n * n; cell++) {
            int i = cell / n;
            int j = cell % n;
            if (chance.nextInt(TABLES * 3 / 2) < k || i == j && likePlaces) {
                x.set(i, j, chance.nextInt(99) + 1);
            }
        }
        return x;
    }

    private static int amount(int set) {
        return Integer.bitCount(set);
    }

    private void ranksAndHeaps() {
        s.of("What it is", "Thin tables solved: tables mostly of noughts: how many rows can have a column each and "
                + "a heap that can't,");
        int heaps = 0;
        for (int k = 0; k < TABLES; k++) {
            ThinTables x = byChance(1 + k % 7, k, false);
            int n = x.count(0);
            int most = n;
            for (int set = 0; set < 1 << n; set++) {
                most = Math.min(most, n - amount(set) + amount(x.columns(set)));
            }
            s.is("RANK: as many as no SET of rows forbids, table " + k, x.count(2), most);
            int heap = x.heap();
            heaps += heap == 0 ? 0 : 1;
            s.holds("a heap if not all rows can, table " + k, heap == 0 == (most == n));
            s.is("one column too few, table " + k, amount(x.columns(heap)), Math.max(0, amount(heap) - 1));
        }
        s.holds("tables of both kinds", heaps > 9 && heaps < TABLES - 9);
    }

    private void finestBlocks() {
        s.of("What it is", "the finest blocks in their order,");
        int split = 0;
        for (int k = 0; k < TABLES; k++) {
            ThinTables x = byChance(2 + k % 6, k, k % 2 == 0);
            if (x.count(3) != NOT) {
                split += x.count(3) > 1 && x.count(3) < x.count(0) ? 1 : 0;
                askBlocks(x, "table " + k);
            }
        }
        s.holds("some tables have blocks of several rows", split > 5);
    }

    /** A SET of rows is whole, if it has as many columns as rows: just such SETS can be taken off at the front. */
    private void askBlocks(ThinTables x, String name) {
        int before = 0;
        for (int number = 0; number < x.count(3); number++) {
            int block = x.rows(number);
            s.holds("rows of its own, " + name, block != 0 && (block & before) == 0);
            s.is("whole with those before, " + name, amount(x.columns(before | block)), amount(before | block));
            for (int part = block - 1 & block; part != 0; part = part - 1 & block) {
                s.holds("no part is, " + name, amount(x.columns(before | part)) > amount(before | part));
            }
            for (int row = 0; row < Integer.numberOfTrailingZeros(block); row++) {
                int other = before | x.rows(x.block(row));
                s.holds("a BLOCK with a lesser row can't come yet, " + name,
                        (before >> row & 1) != 0 || amount(x.columns(other)) > amount(other));
            }
            before |= block;
        }
        s.is("all rows, " + name, before, (1 << x.count(0)) - 1);
    }

    private void ordersByDegree() {
        s.of("What it is", "the graph of places and orders by degree,");
        for (int k = 0; k < TABLES; k++) {
            ThinTables x = byChance(6, k / 2, false);
            x.order(1);
            for (int place = 0; place < 6; place++) {
                int count = x.node(place, 1);
                int node = x.node(place, 0);
                for (int later = place + 1; later < 6; later++) {
                    x.change(place, later);
                    int counted = x.node(place, 1);
                    s.holds("no other is joined to fewer at place " + place + ", table " + k, counted > count
                            || counted == count && x.node(place, 0) > node);
                    x.change(place, later);
                }
            }
        }
    }

    private void ordersByBreadth() {
        s.of("What it is", "by breadth");
        for (int k = 0; k < TABLES; k++) {
            ThinTables x = byChance(12, k / 3, false);
            x.order(2);
            int near = 0;
            int seen = 0;
            // from the last place on each NODE is joined to an earlier one, or none that is left is joined to these
            for (int place = 11; place >= 0; place--) {
                int node = x.node(place, 0);
                s.holds("place " + place + ", table " + k, (near >> node & 1) != 0 || (near & ~seen) == 0);
                seen |= 1 << node;
                near |= x.joined(node);
            }
            s.is("all NODES, table " + k, seen, (1 << 12) - 1);
        }
    }

    private void leastFillOfAll() {
        s.of("What it is", "and by the least fill of all,");
        int filled = 0;
        for (int k = 0; k < TABLES; k++) {
            int least = Integer.MAX_VALUE;
            int first = 0;
            for (int turn = 0; turn < 120; turn++) {
                // an object has but 512 calls: a new one for each of some orders
                ThinTables x = byChance(5, k / 2, false);
                int fill = putInOrder(x, turn);
                if (fill < least || fill == least && orderAsNumber(x) < first) {
                    least = fill;
                    first = orderAsNumber(x);
                }
            }
            ThinTables x = byChance(5, k / 2, false);
            s.is("FILL, table " + k, x.order(3), least);
            s.is("the first such ORDER, table " + k, orderAsNumber(x), first);
            filled += least > 0 ? 1 : 0;
        }
        s.holds("some tables can't do without FILL", filled > 3);
    }

    /** Each turn below 120 puts five NODES in an order of its own. */
    private static int putInOrder(ThinTables x, int turn) {
        int fill = x.order(0);
        int left = turn;
        for (int place = 0; place < 4; place++) {
            fill = x.change(place, place + left % (5 - place));
            left /= 5 - place;
        }
        return fill;
    }

    private static int orderAsNumber(ThinTables x) {
        int number = 0;
        for (int place = 0; place < 5; place++) {
            number = number * 10 + x.node(place, 0);
        }
        return number;
    }

    private void treesAndCounts() {
        s.of("What it is", "the tree of what hangs on what and the counts told ahead,");
        for (int k = 0; k < TABLES; k++) {
            ThinTables x = byChance(1 + k % 10, k / 2, false);
            int n = x.count(0);
            x.order(k % 3);
            int counts = 0;
            int work = 0;
            int hangingOnRoots = 0;
            for (int place = 0; place < n; place++) {
                int node = x.node(place, 0);
                int parent = x.node(place, 2);
                int left = x.going(node);
                counts += x.node(place, 1);
                work += x.node(place, 1) * x.node(place, 1);
                s.is("COUNT, table " + k, x.node(place, 1), amount(left));
                if (parent == NONE) {
                    s.is("no PARENT, none left, table " + k, left, 0);
                    hangingOnRoots += x.node(place, 3);
                } else {
                    s.holds("PARENT is left, table " + k, (left >> parent & 1) != 0);
                    s.is("all others are then joined to it, table " + k, left & ~(1 << parent) & ~x.going(parent), 0);
                }
            }
            s.is("pairs and FILL, table " + k, counts, x.count(4) + x.count(5));
            s.is("WORK, table " + k, work, x.count(6));
            s.is("all hang on such as have no PARENT, table " + k, hangingOnRoots, n);
        }
    }

    private void factorsHaveThesePlaces() {
        s.of("What it is", "then factors by rests of a prime that have just these places,");
        int fills = 0;
        for (int k = 0; k < TABLES; k++) {
            ThinTables x = byChance(8, k / 3, true);
            fillLikeSides(x);
            x.order(k % 4);
            s.is("there are FACTORS, table " + k, x.stop(), NONE);
            s.is("as many as told, table " + k, x.full(), 2 * (x.count(4) + x.count(5)));
            fills += x.count(5) > 0 ? 1 : 0;
            int seen = 0;
            for (int place = 0; place < 8; place++) {
                int node = x.node(place, 0);
                int left = 0;
                int upper = 0;
                for (int other = 0; other < 8; other++) {
                    left |= other != node && x.factor(other, node, 0) != 0 ? 1 << other : 0;
                    upper |= other != node && x.factor(node, other, 1) != 0 ? 1 << other : 0;
                }
                s.is("column of LEFT, table " + k, left, x.going(node));
                s.is("row of UPPER, table " + k, upper, x.going(node));
                seen |= 1 << node;
                s.is("none that is gone, table " + k, left & seen, 0);
            }
        }
        s.holds("some tables have FILL", fills > 9);
    }

    /** A PLACE at each (j, i) where there is one at (i, j): then no place of FACTORS is there for one side alone. */
    private static void fillLikeSides(ThinTables x) {
        for (int i = 0; i < 8; i++) {
            int near = x.joined(i);
            for (int j = 0; j < 8; j++) {
                if ((near >> j & 1) != 0 && x.cell(i, j) == 0) {
                    x.set(i, j, 13 + 7 * i + j);
                }
            }
        }
    }

    private void solutionsCheck() {
        s.of("What it is", "solutions that check, cells of the inverse, a cell changed without solving anew, ranks;");
        int solved = 0;
        for (int k = 0; k < TABLES; k++) {
            ThinTables x = byChance(1 + k % 5, k, k % 3 == 0);
            x.prime(new int[] {2, 7, P}[k % 3]);
            int n = x.count(0);
            int p = x.count(8);
            for (int i = 0; i < n; i++) {
                x.side(i, 17 * i + k - 99);
            }
            int determinant = x.determinant();
            s.holds("rank by rests is at most RANK, table " + k, x.rank() <= x.count(2));
            s.holds("all ranks, or DETERMINANT 0, table " + k, x.rank() == n == (determinant != 0));
            if (determinant == 0) {
                s.is("no SOLUTION, table " + k, x.solution(0), NOT);
                continue;
            }
            solved++;
            for (int i = 0; i < n; i++) {
                askRow(x, i, "row " + i + ", table " + k);
            }
            int i = k % n;
            int j = k / 7 % n;
            int v = 5 * k % 199 - 99;
            long more = (long) (v - x.cell(i, j)) * x.inverse(j, i) % p * determinant;
            int changed = x.changed(i, j, v);
            s.is("changed by INVERSE, table " + k, changed, Math.floorMod(determinant + more, (long) p));
            x.set(i, j, v);
            s.is("and if it is changed, table " + k, x.determinant(), changed);
        }
        s.holds("tables of both kinds", solved > 9 && solved < TABLES - 9);
    }

    private void askRow(ThinTables x, int i, String name) {
        int n = x.count(0);
        int p = x.count(8);
        long sum = 0;
        for (int j = 0; j < n; j++) {
            sum += (long) x.cell(i, j) * x.solution(j);
        }
        int b = x.side(i, 0);
        x.side(i, b);
        s.is("SOLUTION, " + name, Math.floorMod(sum, (long) p), Math.floorMod(b, p));
        for (int k = 0; k < n; k++) {
            long product = 0;
            for (int j = 0; j < n; j++) {
                product += (long) x.cell(i, j) * x.inverse(j, k);
            }
            s.is("INVERSE, " + name, Math.floorMod(product, (long) p), i == k ? 1 : 0);
        }
    }

    private void smallTablesByFractions() {
        s.of("What it is", "and small tables solved by fractions.");
        for (int k = 0; k < TABLES; k++) {
            ThinTables x = byChance(1 + k % 5, k, true);
            int n = x.count(0);
            long[] sides = new long[n];
            for (int i = 0; i < n; i++) {
                sides[i] = (29 * i + 3 * k) % 199 - 99;
                x.side(i, (int) sides[i]);
            }
            long determinant = x.exact(-1, 2);
            s.is("by rests, table " + k, x.determinant(), Math.floorMod(determinant, (long) P));
            for (int i = 0; i < n && determinant != 0; i++) {
                long sum = 0;
                for (int j = 0; j < n; j++) {
                    s.is("the lower number divides, table " + k, determinant % x.exact(j, 1), 0);
                    sum += x.cell(i, j) * x.exact(j, 0) * (determinant / x.exact(j, 1));
                }
                s.is("row " + i + ", table " + k, sum, sides[i] * determinant);
                if (x.determinant() != 0) {
                    s.is("value " + i + " by rests, table " + k,
                            Math.floorMod(x.solution(i) * x.exact(i, 1) - x.exact(i, 0), (long) P), 0);
                }
            }
        }
    }

    private void noCallFails() {
        s.of("Not promised", "How the state is held inside the object is free, as are the speed of each call, the "
                + "text of toString and the behaviour of equals and hashCode. Use of one object from several threads "
                + "at once is not promised to be safe. Nothing is promised beyond the answers and state changes "
                + "described above, and nothing about an object after its 512th call.");
        ThinTables x = Made.dense(20, 1);
        int ended = 0;
        for (int call = 0; call < 600; call++) {
            x.set(call % 20, call / 20 % 20, call % 7);
            x.order(call % 3);
            x.solution(call % 21);
            x.block(call % 21);
            ended++;
        }
        s.is("runs of later calls that end, whatever they answer", ended, 600);
    }
}
