import java.util.Arrays;

/** Thin tables solved; the document (DOC.md) has the promises, README.md the use. */
public final class ThinTables {
    public static final int NONE = -1, OUTSIDE = -100001, NOT = -100002;

    private static final int MOST_ROWS = 20;
    private static final int FIRST_ROWS = 4;
    private static final int MOST_VALUE = 99;
    private static final int MOST_ROWS_LEAST_FILL = 12;
    private static final int MOST_ROWS_EXACT = 5;
    private static final int LEAST_PRIME = 2;
    private static final int FIRST_PRIME = 10007;
    private static final int MOST_PRIME = 46337;

    private final Table table;
    private final Matching matching;
    private final Blocks blocks;
    private final Sequence sequence;
    private final Elimination elimination;
    private final OrderMaker orderMaker;
    private final LeastFill leastFill;
    private final Rests rests;
    private final Fractions fractions;

    public ThinTables() {
        table = new Table();
        matching = new Matching();
        blocks = new Blocks();
        sequence = new Sequence();
        elimination = new Elimination();
        orderMaker = new OrderMaker();
        leastFill = new LeastFill();
        rests = new Rests();
        fractions = new Fractions();
        table.wipe(FIRST_ROWS);
        sequence.setAsTheyAre(FIRST_ROWS);
    }

    // ---- the table

    public int size(int n) {
        if (!isWithin(n, 1, MOST_ROWS)) {
            return OUTSIDE;
        }
        int before = table.n;
        table.wipe(n);
        sequence.setAsTheyAre(n);
        return before;
    }

    public int set(int i, int j, int v) {
        if (!isRow(i) || !isRow(j) || !isValue(v)) {
            return OUTSIDE;
        }
        int before = table.cells[i][j];
        table.put(i, j, v);
        return before;
    }

    public int cell(int i, int j) {
        if (!isRow(i) || !isRow(j)) {
            return OUTSIDE;
        }
        return table.cells[i][j];
    }

    public int side(int i, int v) {
        if (!isRow(i) || !isValue(v)) {
            return OUTSIDE;
        }
        int before = table.sideValues[i];
        table.sideValues[i] = v;
        return before;
    }

    public int count(int what) {
        if (!isWithin(what, 0, 9)) {
            return OUTSIDE;
        }
        switch (what) {
            case 0:
                return table.n;
            case 1:
                return table.placeCount();
            case 2:
                matching.fit(table);
                return matching.pairs;
            case 3:
                return splitIntoBlocks() ? blocks.amount : NOT;
            case 4:
                return table.joinedPairs();
            case 8:
                return rests.p;
            default:
                return countOfElimination(what);
        }
    }

    // ---- matchings, blocks

    public int matched(int row) {
        if (!isRow(row)) {
            return OUTSIDE;
        }
        matching.fit(table);
        return matching.columnOf[row];
    }

    public int heap() {
        matching.fit(table);
        return matching.rowsInHeap(table);
    }

    public int columns(int set) {
        if (!isWithin(set, 0, bit(table.n) - 1)) {
            return OUTSIDE;
        }
        int found = 0;
        for (int row = 0; row < table.n; row++) {
            if (has(set, row)) {
                found |= table.across[row];
            }
        }
        return found;
    }

    public int block(int row) {
        if (!isRow(row)) {
            return OUTSIDE;
        }
        return splitIntoBlocks() ? blocks.numberOf(row) : NOT;
    }

    public int rows(int block) {
        if (!splitIntoBlocks()) {
            return NOT;
        }
        return isWithin(block, 0, blocks.amount - 1) ? blocks.members[block] : 0;
    }

    // ---- the graph, orders

    public int joined(int node) {
        if (!isRow(node)) {
            return OUTSIDE;
        }
        return table.joinedTo(node);
    }

    public int order(int kind) {
        if (!isWithin(kind, 0, 3)) {
            return OUTSIDE;
        }
        if (kind == 3 && table.n > MOST_ROWS_LEAST_FILL) {
            return NOT;
        }
        switch (kind) {
            case 1:
                orderMaker.byLeastDegree(table, sequence);
                break;
            case 2:
                orderMaker.byBreadth(table, sequence);
                break;
            case 3:
                leastFill.arrange(table, sequence);
                break;
            default:
                sequence.setAsTheyAre(table.n);
        }
        elimination.run(table, sequence);
        return elimination.fill;
    }

    public int change(int k, int m) {
        if (!isRow(k) || !isRow(m)) {
            return OUTSIDE;
        }
        sequence.swap(k, m);
        elimination.run(table, sequence);
        return elimination.fill;
    }

    public int node(int k, int what) {
        if (!isRow(k) || !isWithin(what, 0, 3)) {
            return OUTSIDE;
        }
        int asked = sequence.nodes[k];
        elimination.run(table, sequence);
        switch (what) {
            case 0:
                return asked;
            case 1:
                return Integer.bitCount(elimination.joinedAsGone[asked]);
            case 2:
                return elimination.parents[asked];
            default:
                return elimination.hanging[asked];
        }
    }

    public int going(int node) {
        if (!isRow(node)) {
            return OUTSIDE;
        }
        elimination.run(table, sequence);
        return elimination.joinedAsGone[node];
    }

    // ---- by rests

    public int prime(int p) {
        if (!isWithin(p, LEAST_PRIME, MOST_PRIME) || !isPrime(p)) {
            return OUTSIDE;
        }
        int before = rests.p;
        rests.p = p;
        return before;
    }

    public int stop() {
        return rests.makeFactors(table, sequence);
    }

    public int factor(int i, int j, int what) {
        if (!isRow(i) || !isRow(j) || !isWithin(what, 0, 1)) {
            return OUTSIDE;
        }
        if (rests.makeFactors(table, sequence) != NONE) {
            return NOT;
        }
        int rowPlace = sequence.placeOf(i, table.n);
        int columnPlace = sequence.placeOf(j, table.n);
        return what == 0 ? rests.leftCell(rowPlace, columnPlace) : rests.upperCell(rowPlace, columnPlace);
    }

    public int full() {
        if (rests.makeFactors(table, sequence) != NONE) {
            return NOT;
        }
        return rests.fullCells(table.n);
    }

    public int determinant() {
        rests.load(table);
        rests.clearBelow(table.n, table.n);
        return rests.pivotProduct;
    }

    public int rank() {
        rests.load(table);
        return rests.clearBelow(table.n, table.n);
    }

    public int solution(int i) {
        if (!isRow(i)) {
            return OUTSIDE;
        }
        rests.load(table);
        for (int row = 0; row < table.n; row++) {
            rests.putBeside(row, table.n, table.sideValues[row]);
        }
        return rests.solve(table.n) ? rests.solved[i] : NOT;
    }

    public int inverse(int i, int j) {
        if (!isRow(i) || !isRow(j)) {
            return OUTSIDE;
        }
        rests.load(table);
        // column j of INVERSE solves THE TABLE for a side that is 1 at j alone
        for (int row = 0; row < table.n; row++) {
            rests.putBeside(row, table.n, row == j ? 1 : 0);
        }
        return rests.solve(table.n) ? rests.solved[i] : NOT;
    }

    public int changed(int i, int j, int v) {
        if (!isRow(i) || !isRow(j) || !isValue(v)) {
            return OUTSIDE;
        }
        rests.load(table);
        rests.work[i][j] = rests.restOf(v);
        rests.clearBelow(table.n, table.n);
        return rests.pivotProduct;
    }

    // ---- by fractions

    public long exact(int i, int what) {
        if (!isWithin(what, 0, 2) || (what != 2 && !isRow(i))) {
            return OUTSIDE;
        }
        if (table.n > MOST_ROWS_EXACT) {
            return NOT;
        }
        long lower = fractions.determinantWith(table, NONE);
        if (what == 2) {
            return lower;
        }
        if (lower == 0) {
            return NOT;
        }
        long upper = fractions.determinantWith(table, i);
        return what == 0 ? upperOf(upper, lower) : lowerOf(upper, lower);
    }

    // ---- what the calls share

    private boolean isRow(int k) {
        return isWithin(k, 0, table.n - 1);
    }

    private boolean splitIntoBlocks() {
        matching.fit(table);
        if (matching.pairs < table.n) {
            return false;
        }
        blocks.split(table, matching);
        return true;
    }

    private int countOfElimination(int what) {
        elimination.run(table, sequence);
        switch (what) {
            case 5:
                return elimination.fill;
            case 6:
                return elimination.work;
            case 7:
                return elimination.height;
            default:
                return elimination.withoutParent;
        }
    }

    private static boolean isWithin(int value, int least, int most) {
        return value >= least && value <= most;
    }

    private static boolean isValue(int v) {
        return isWithin(v, -MOST_VALUE, MOST_VALUE);
    }

    private static int bit(int k) {
        return 1 << k;
    }

    private static boolean has(int set, int k) {
        return (set >> k & 1) != 0;
    }

    private static boolean isPrime(int p) {
        for (int divisor = 2; divisor * divisor <= p; divisor++) {
            if (p % divisor == 0) {
                return false;
            }
        }
        return p >= LEAST_PRIME;
    }

    private static long upperOf(long upper, long lower) {
        long shared = sharedDivisor(upper, lower);
        return lower < 0 ? -(upper / shared) : upper / shared;
    }

    private static long lowerOf(long upper, long lower) {
        return Math.abs(lower) / sharedDivisor(upper, lower);
    }

    /** The greatest divisor of both; 1 for two noughts, so that it always divides. */
    private static long sharedDivisor(long one, long other) {
        long a = Math.abs(one);
        long b = Math.abs(other);
        for (int step = 0; step < 200 && b != 0; step++) {
            long left = a % b;
            a = b;
            b = left;
        }
        return Math.max(a, 1L);
    }

    /** THE TABLE and THE SIDE; the places of each row and column are kept as sets, too. */
    private static final class Table {
        private int n;
        private final int[][] cells = new int[MOST_ROWS][MOST_ROWS];
        private final int[] sideValues = new int[MOST_ROWS];
        private final int[] across = new int[MOST_ROWS];
        private final int[] down = new int[MOST_ROWS];

        private void wipe(int newRows) {
            n = newRows;
            for (int row = 0; row < MOST_ROWS; row++) {
                Arrays.fill(cells[row], 0);
            }
            Arrays.fill(sideValues, 0);
            Arrays.fill(across, 0);
            Arrays.fill(down, 0);
        }

        private void put(int i, int j, int v) {
            cells[i][j] = v;
            across[i] &= ~bit(j);
            down[j] &= ~bit(i);
            if (v != 0) {
                across[i] |= bit(j);
                down[j] |= bit(i);
            }
        }

        private int placeCount() {
            int sum = 0;
            for (int row = 0; row < n; row++) {
                sum += Integer.bitCount(across[row]);
            }
            return sum;
        }

        private int joinedTo(int asked) {
            return (across[asked] | down[asked]) & ~bit(asked);
        }

        private int joinedPairs() {
            int ends = 0;
            for (int one = 0; one < n; one++) {
                ends += Integer.bitCount(joinedTo(one));
            }
            return ends / 2;
        }
    }

    /** THE MATCHING and THE HEAP. */
    private static final class Matching {
        private int pairs;
        private final int[] columnOf = new int[MOST_ROWS];
        private final int[] rowOf = new int[MOST_ROWS];
        private final int[] cameFrom = new int[MOST_ROWS];
        private final int[] queue = new int[MOST_ROWS];

        private void fit(Table table) {
            makeMost(table);
            int settled = 0;
            for (int row = 0; row < table.n; row++) {
                settled |= settle(table, row, settled);
            }
        }

        private void makeMost(Table table) {
            Arrays.fill(columnOf, NONE);
            Arrays.fill(rowOf, NONE);
            pairs = 0;
            for (int round = 0; round < table.n && grow(table, 0, 0); round++) {
                pairs++;
            }
        }

        /** Gives the row the least column that lets it; answers that column as a set. */
        private int settle(Table table, int row, int settled) {
            int open = table.across[row] & ~settled;
            for (int column = 0; column < table.n; column++) {
                if (has(open, column) && takes(table, row, column, settled)) {
                    return bit(column);
                }
            }
            return 0;
        }

        /** Pairs row and column if there still are as many pairs then; else changes nothing. */
        private boolean takes(Table table, int row, int column, int settled) {
            int columnBefore = columnOf[row];
            int rowBefore = rowOf[column];
            if (columnBefore == column) {
                return true;
            }
            if (columnBefore != NONE) {
                rowOf[columnBefore] = NONE;
            }
            if (rowBefore != NONE) {
                columnOf[rowBefore] = NONE;
            }
            columnOf[row] = column;
            rowOf[column] = row;
            if (columnBefore == NONE || rowBefore == NONE) {
                return true;
            }
            // two pairs became one: a way from a later row to an open column must make up for it
            if (grow(table, row + 1, settled | bit(column))) {
                return true;
            }
            columnOf[row] = columnBefore;
            rowOf[columnBefore] = row;
            columnOf[rowBefore] = column;
            rowOf[column] = rowBefore;
            return false;
        }

        /** One pair more among the rows from the first one on, without the barred columns. */
        private boolean grow(Table table, int first, int barred) {
            int seen = barred;
            int end = 0;
            for (int row = first; row < table.n; row++) {
                if (columnOf[row] == NONE) {
                    queue[end++] = row;
                }
            }
            for (int head = 0; head < end; head++) {
                int row = queue[head];
                int fresh = table.across[row] & ~seen;
                seen |= fresh;
                for (int column = 0; column < table.n && fresh != 0; column++) {
                    if (!has(fresh, column)) {
                        continue;
                    }
                    cameFrom[column] = row;
                    if (rowOf[column] == NONE) {
                        turnWay(column, table.n);
                        return true;
                    }
                    if (end < MOST_ROWS) {
                        queue[end++] = rowOf[column];
                    }
                }
            }
            return false;
        }

        /** Along the way that came to a column without a row, each row moves one column on. */
        private void turnWay(int last, int n) {
            int column = last;
            for (int step = 0; step < n && column != NONE; step++) {
                int row = cameFrom[column];
                int next = columnOf[row];
                columnOf[row] = column;
                rowOf[column] = row;
                column = next;
            }
        }

        private int leastRowWithout(int n) {
            for (int row = 0; row < n; row++) {
                if (columnOf[row] == NONE) {
                    return row;
                }
            }
            return NONE;
        }

        private int rowsInHeap(Table table) {
            int first = leastRowWithout(table.n);
            if (first == NONE) {
                return 0;
            }
            int found = bit(first);
            int end = 0;
            queue[end++] = first;
            for (int head = 0; head < end; head++) {
                int places = table.across[queue[head]];
                for (int column = 0; column < table.n; column++) {
                    int owner = has(places, column) ? rowOf[column] : NONE;
                    if (owner != NONE && !has(found, owner) && end < MOST_ROWS) {
                        found |= bit(owner);
                        queue[end++] = owner;
                    }
                }
            }
            return found;
        }
    }

    /** BLOCKS of a table whose RANK is n. */
    private static final class Blocks {
        private int amount;
        private final int[] members = new int[MOST_ROWS];
        private final int[] reach = new int[MOST_ROWS];

        private void split(Table table, Matching matching) {
            findReach(table, matching);
            amount = 0;
            int numbered = 0;
            for (int round = 0; round < table.n; round++) {
                int row = nextRow(numbered, table.n);
                if (row == NONE) {
                    return;
                }
                members[amount] = together(row, table.n);
                numbered |= members[amount];
                amount++;
            }
        }

        private void findReach(Table table, Matching matching) {
            for (int row = 0; row < table.n; row++) {
                reach[row] = 0;
                for (int other = 0; other < table.n; other++) {
                    int column = matching.columnOf[other];
                    if (column != NONE && has(table.across[row], column)) {
                        reach[row] |= bit(other);
                    }
                }
            }
            for (int via = 0; via < table.n; via++) {
                for (int row = 0; row < table.n; row++) {
                    if (has(reach[row], via)) {
                        reach[row] |= reach[via];
                    }
                }
            }
        }

        /** Rows that lead to one another with this one; it is among them, as it has its own column. */
        private int together(int row, int n) {
            int found = 0;
            for (int other = 0; other < n; other++) {
                if (has(reach[row], other) && has(reach[other], row)) {
                    found |= bit(other);
                }
            }
            return found;
        }

        private int nextRow(int numbered, int n) {
            for (int row = 0; row < n; row++) {
                if (!has(numbered, row) && (reach[row] & ~(numbered | together(row, n))) == 0) {
                    return row;
                }
            }
            return NONE;
        }

        private int numberOf(int row) {
            for (int number = 0; number < amount; number++) {
                if (has(members[number], row)) {
                    return number;
                }
            }
            return NONE;
        }
    }

    /** THE ORDER. */
    private static final class Sequence {
        private final int[] nodes = new int[MOST_ROWS];

        private void setAsTheyAre(int n) {
            for (int place = 0; place < n; place++) {
                nodes[place] = place;
            }
        }

        private void swap(int k, int m) {
            int kept = nodes[k];
            nodes[k] = nodes[m];
            nodes[m] = kept;
        }

        private void turnRound(int n) {
            for (int place = 0; place < n / 2; place++) {
                swap(place, n - 1 - place);
            }
        }

        private int placeOf(int asked, int n) {
            for (int place = 0; place < n; place++) {
                if (nodes[place] == asked) {
                    return place;
                }
            }
            return 0;
        }

        /** The first NODE of a set behind a place; NONE. */
        private int firstBehind(int place, int among, int n) {
            for (int later = place + 1; later < n && among != 0; later++) {
                if (has(among, nodes[later])) {
                    return nodes[later];
                }
            }
            return NONE;
        }
    }

    /** THE GRAPH while its NODES go: each NODE's set holds only such as have not yet gone. */
    private static final class Graph {
        private int n;
        private final int[] near = new int[MOST_ROWS];

        private void load(Table table) {
            n = table.n;
            for (int one = 0; one < n; one++) {
                near[one] = table.joinedTo(one);
            }
        }

        private int take(int gone) {
            return letGo(near, n, gone);
        }

        /** Lets a NODE go; answers the set of those that it was joined to. */
        private static int letGo(int[] sets, int n, int gone) {
            int left = sets[gone];
            int open = left;
            for (int one = 0; one < n && open != 0; one++) {
                if ((open & 1) != 0) {
                    sets[one] = (sets[one] | left) & ~(bit(one) | bit(gone));
                }
                open >>= 1;
            }
            return left;
        }

        private int degree(int one) {
            return Integer.bitCount(near[one]);
        }

        /** Of a set the NODE that is joined to fewest, of like ones the least; NONE. */
        private int loneliest(int among) {
            int best = NONE;
            for (int one = 0; one < n; one++) {
                if (has(among, one) && (best == NONE || degree(one) < degree(best))) {
                    best = one;
                }
            }
            return best;
        }
    }

    /** What comes of it when all NODES go in THE ORDER. */
    private static final class Elimination {
        private int fill;
        private int work;
        private int height;
        private int withoutParent;
        private final Graph graph = new Graph();
        private final int[] joinedAsGone = new int[MOST_ROWS];
        private final int[] parents = new int[MOST_ROWS];
        private final int[] hanging = new int[MOST_ROWS];
        private final int[] tall = new int[MOST_ROWS];

        private void run(Table table, Sequence sequence) {
            graph.load(table);
            Arrays.fill(hanging, 1);
            Arrays.fill(tall, 1);
            // each pair is counted once, by the one that goes first: what was not there before is FILL
            fill = -table.joinedPairs();
            work = 0;
            height = 0;
            withoutParent = 0;
            for (int place = 0; place < table.n; place++) {
                int gone = sequence.nodes[place];
                int left = graph.take(gone);
                int amount = Integer.bitCount(left);
                joinedAsGone[gone] = left;
                parents[gone] = sequence.firstBehind(place, left, table.n);
                fill += amount;
                work += amount * amount;
                height = Math.max(height, tall[gone]);
                hang(gone, parents[gone]);
            }
        }

        /** A PARENT goes after all that hang on it, so what it gets here is whole when it is used. */
        private void hang(int child, int parent) {
            if (parent == NONE) {
                withoutParent++;
                return;
            }
            hanging[parent] += hanging[child];
            tall[parent] = Math.max(tall[parent], tall[child] + 1);
        }
    }

    /** ORDERS by LEAST DEGREE and by BREADTH. */
    private static final class OrderMaker {
        private final Graph graph = new Graph();

        private void byLeastDegree(Table table, Sequence sequence) {
            graph.load(table);
            int left = bit(table.n) - 1;
            for (int place = 0; place < table.n; place++) {
                int gone = graph.loneliest(left);
                if (gone == NONE) {
                    return;
                }
                graph.take(gone);
                left &= ~bit(gone);
                sequence.nodes[place] = gone;
            }
        }

        private void byBreadth(Table table, Sequence sequence) {
            graph.load(table);
            int left = bit(table.n) - 1;
            int end = 0;
            for (int head = 0; head < table.n; head++) {
                if (head == end) {
                    int start = bit(graph.loneliest(left));
                    left &= ~start;
                    end = putBehind(sequence, end, start);
                }
                int behind = graph.near[sequence.nodes[head]] & left;
                left &= ~behind;
                end = putBehind(sequence, end, behind);
            }
            sequence.turnRound(table.n);
        }

        /** Puts a set's NODES behind, those joined to fewest first; answers the new end. */
        private int putBehind(Sequence sequence, int end, int among) {
            int open = among;
            int place = end;
            while (place < MOST_ROWS && open != 0) {
                int next = graph.loneliest(open);
                if (next == NONE) {
                    return place;
                }
                open &= ~bit(next);
                sequence.nodes[place++] = next;
            }
            return place;
        }
    }

    /**
     * The ORDER with the LEAST FILL. What a NODE is joined to as it goes hangs on the set of those that
     * went before, not on their order; so each set that may have gone is weighed once: its weight is the
     * least sum of the COUNTS yet to come, and below that the NODE to go next. The least weight then has
     * the least sum and, of like ones, the least NODE.
     */
    private static final class LeastFill {
        private static final int NODE_PART = 32;
        private static final int HEAVIEST = 1 << 20;

        private int n;
        private final int[] weights = new int[1 << MOST_ROWS_LEAST_FILL];
        private final int[][] levels = new int[MOST_ROWS_LEAST_FILL + 1][MOST_ROWS_LEAST_FILL];

        private void arrange(Table table, Sequence sequence) {
            if (table.n > MOST_ROWS_LEAST_FILL) {
                return;
            }
            n = table.n;
            for (int one = 0; one < n; one++) {
                levels[n][one] = table.joinedTo(one);
            }
            weigh(n, 0, levels[n]);
            int gone = 0;
            for (int place = 0; place < n; place++) {
                int next = weights[gone] % NODE_PART;
                sequence.nodes[place] = next;
                gone |= bit(next);
            }
        }

        /**
         * Weighs all sets that have these gone ones and any of the NODES below level, greater sets first:
         * each set then finds those with one more weighed already. What is near is left as it is.
         */
        private void weigh(int level, int gone, int[] near) {
            if (level <= 0 || level > MOST_ROWS_LEAST_FILL) {
                weighSet(gone, near);
                return;
            }
            int decided = level - 1;
            int[] without = levels[decided];
            System.arraycopy(near, 0, without, 0, n);
            Graph.letGo(without, n, decided);
            weigh(decided, gone | bit(decided), without);
            weigh(decided, gone, near);
        }

        private void weighSet(int gone, int[] near) {
            int open = (bit(n) - 1) & ~gone;
            int least = open == 0 ? 0 : HEAVIEST;
            for (int next = 0; next < n && open != 0; next++) {
                if ((open & 1) != 0) {
                    int sum = Integer.bitCount(near[next]) + weights[gone | bit(next)] / NODE_PART;
                    least = Math.min(least, sum * NODE_PART + next);
                }
                open >>= 1;
            }
            weights[gone] = least;
        }
    }

    /** Reckoning by RESTS of P, in one work table with a column beside it for a side. */
    private static final class Rests {
        private int p = FIRST_PRIME;
        private int pivotProduct;
        private final int[][] work = new int[MOST_ROWS][MOST_ROWS + 1];
        private final int[] solved = new int[MOST_ROWS];

        private int restOf(long value) {
            long left = value % p;
            return (int) (left < 0 ? left + p : left);
        }

        /** What times the value has the rest 1; by Fermat's theorem a power of it. */
        private int reciprocal(int value) {
            long power = 1;
            long square = value;
            for (int exponent = p - 2; exponent > 0; exponent >>= 1) {
                if ((exponent & 1) != 0) {
                    power = power * square % p;
                }
                square = square * square % p;
            }
            return (int) power;
        }

        private void load(Table table) {
            for (int row = 0; row < table.n; row++) {
                for (int column = 0; column < table.n; column++) {
                    work[row][column] = restOf(table.cells[row][column]);
                }
            }
        }

        private void putBeside(int row, int n, int value) {
            work[row][n] = restOf(value);
        }

        /**
         * Takes the pivot's row from those below it. The factors are kept where the noughts would be:
         * LEFT is made of them, and nothing else looks there again.
         */
        private void takeAway(int pivotRow, int column, int n, int width) {
            int[] pivots = work[pivotRow];
            int turned = reciprocal(pivots[column]);
            for (int row = pivotRow + 1; row < n; row++) {
                int[] lower = work[row];
                if (lower[column] == 0) {
                    continue;
                }
                int times = restOf((long) lower[column] * turned);
                lower[column] = times;
                for (int later = column + 1; later < width; later++) {
                    if (pivots[later] != 0) {
                        lower[later] = restOf(lower[later] - (long) times * pivots[later]);
                    }
                }
            }
        }

        /** LEFT and UPPER by places of THE ORDER into the work table; answers THE STOP. */
        private int makeFactors(Table table, Sequence sequence) {
            int n = table.n;
            for (int row = 0; row < n; row++) {
                for (int column = 0; column < n; column++) {
                    work[row][column] = restOf(table.cells[sequence.nodes[row]][sequence.nodes[column]]);
                }
            }
            for (int place = 0; place < n; place++) {
                if (work[place][place] == 0) {
                    return sequence.nodes[place];
                }
                takeAway(place, place, n, n);
            }
            return NONE;
        }

        private int leftCell(int row, int column) {
            if (row == column) {
                return 1;
            }
            return row > column ? work[row][column] : 0;
        }

        private int upperCell(int row, int column) {
            return row <= column ? work[row][column] : 0;
        }

        private int fullCells(int n) {
            int sum = 0;
            for (int row = 0; row < n; row++) {
                for (int column = 0; column < n; column++) {
                    if (row != column && work[row][column] != 0) {
                        sum++;
                    }
                }
            }
            return sum;
        }

        /** Clears below the pivots, with rows changed as need be; answers how many pivots there are. */
        private int clearBelow(int n, int width) {
            int pivots = 0;
            pivotProduct = 1;
            for (int column = 0; column < n; column++) {
                int found = rowWithPivot(pivots, column, n);
                if (found == NONE) {
                    pivotProduct = 0;
                    continue;
                }
                if (found != pivots) {
                    swapRows(pivots, found);
                    pivotProduct = restOf(-pivotProduct);
                }
                pivotProduct = restOf((long) pivotProduct * work[pivots][column]);
                takeAway(pivots, column, n, width);
                pivots++;
            }
            return pivots;
        }

        private int rowWithPivot(int first, int column, int n) {
            for (int row = first; row < n; row++) {
                if (work[row][column] != 0) {
                    return row;
                }
            }
            return NONE;
        }

        private void swapRows(int one, int other) {
            int[] kept = work[one];
            work[one] = work[other];
            work[other] = kept;
        }

        /** Solves for the column beside; false if DETERMINANT is 0. */
        private boolean solve(int n) {
            if (clearBelow(n, n + 1) < n) {
                return false;
            }
            for (int row = n - 1; row >= 0; row--) {
                long left = work[row][n];
                for (int column = row + 1; column < n; column++) {
                    left -= (long) work[row][column] * solved[column];
                }
                solved[row] = restOf((long) restOf(left) * reciprocal(work[row][row]));
            }
            return true;
        }
    }

    /** Determinants of small tables without rests: five rows of 99s stay far within a long. */
    private static final class Fractions {
        private final long[] minors = new long[1 << MOST_ROWS_EXACT];

        /** The determinant with THE SIDE in place of a column (NONE: of no column). */
        private long determinantWith(Table table, int replaced) {
            int n = table.n;
            if (n > MOST_ROWS_EXACT) {
                return 0;
            }
            minors[0] = 1;
            for (int chosen = 1; chosen < bit(n); chosen++) {
                minors[chosen] = minorOf(table, chosen, replaced);
            }
            return minors[bit(n) - 1];
        }

        /** The minor of the first rows, as many as there are chosen columns, along its last row. */
        private long minorOf(Table table, int chosen, int replaced) {
            int row = Integer.bitCount(chosen) - 1;
            long sum = 0;
            long sign = 1;
            for (int column = table.n - 1; column >= 0 && row >= 0; column--) {
                if (has(chosen, column)) {
                    long value = column == replaced ? table.sideValues[row] : table.cells[row][column];
                    sum += sign * value * minors[chosen & ~bit(column)];
                    sign = -sign;
                }
            }
            return sum;
        }
    }
}
