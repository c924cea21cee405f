import java.math.BigInteger;
import java.util.ArrayList;
import java.util.Arrays;
import java.util.List;
import java.util.TreeSet;

/**
 * The document's words in their slowest form, to hold ThinTables against: sets are sets of numbers, pairs
 * are looked at one by one, and numbers are BigIntegers. It shares no code with ThinTables.
 */
final class SlowTables {
    static final int NONE = -1, OUTSIDE = -100001, NOT = -100002;
    private int n = 4;
    private int[][] a = new int[4][4];
    private int[] b = new int[4];
    private List<Integer> order = new ArrayList<>(List.of(0, 1, 2, 3));
    private int p = 10007;
    private int[] known;

    // ---- the table

    public int size(int rows) {
        if (rows < 1 || rows > 20) return OUTSIDE;
        int was = n;
        n = rows;
        a = new int[n][n];
        b = new int[n];
        order = asTheyAre();
        known = null;
        return was;
    }

    public int set(int i, int j, int v) {
        if (out(i) || out(j) || v < -99 || v > 99) return OUTSIDE;
        int was = a[i][j];
        a[i][j] = v;
        known = null;
        return was;
    }

    public int cell(int i, int j) {
        return out(i) || out(j) ? OUTSIDE : a[i][j];
    }

    public int side(int i, int v) {
        if (out(i) || v < -99 || v > 99) return OUTSIDE;
        int was = b[i];
        b[i] = v;
        return was;
    }

    public int count(int what) {
        switch (what) {
            case 0: return n;
            case 1: return places();
            case 2: return structural(0, new TreeSet<>());
            case 3: return blocks() == null ? NOT : blocks().size();
            case 4: return pairs(graph());
            case 5: return new Going(order).fill;
            case 6: return Arrays.stream(new Going(order).counts()).map(c -> c * c).sum();
            case 7: return new Going(order).height();
            case 8: return p;
            case 9: return (int) Arrays.stream(new Going(order).parent).filter(q -> q == NONE).count();
            default: return OUTSIDE;
        }
    }

    private boolean out(int k) {
        return k < 0 || k >= n;
    }

    private int places() {
        int sum = 0;
        for (int[] row : a) for (int v : row) if (v != 0) sum++;
        return sum;
    }

    // ---- matchings, blocks

    public int matched(int row) {
        return out(row) ? OUTSIDE : matching()[row];
    }

    /** The most PLACES of a MATCHING of the rows from the first on without the columns taken. */
    private int structural(int first, TreeSet<Integer> taken) {
        return n <= 5 ? everyWay(first, taken) : byWays(first, taken);
    }

    private int everyWay(int row, TreeSet<Integer> taken) {
        if (row == n) return 0;
        int best = everyWay(row + 1, taken);
        for (int j = 0; j < n; j++) {
            if (a[row][j] != 0 && !taken.contains(j)) {
                TreeSet<Integer> more = new TreeSet<>(taken);
                more.add(j);
                best = Math.max(best, 1 + everyWay(row + 1, more));
            }
        }
        return best;
    }

    private int byWays(int first, TreeSet<Integer> taken) {
        int[] owner = new int[n];
        Arrays.fill(owner, NONE);
        int sum = 0;
        for (int row = first; row < n; row++) {
            if (placed(row, new TreeSet<>(taken), owner)) sum++;
        }
        return sum;
    }

    private boolean placed(int row, TreeSet<Integer> seen, int[] owner) {
        for (int j = 0; j < n; j++) {
            if (a[row][j] != 0 && seen.add(j) && (owner[j] == NONE || placed(owner[j], seen, owner))) {
                owner[j] = row;
                return true;
            }
        }
        return false;
    }

    /** Kept until a cell changes, as tests ask for all rows of one table. */
    private int[] matching() {
        if (known == null) known = newMatching();
        return known;
    }

    private int[] newMatching() {
        int most = structural(0, new TreeSet<>());
        int[] columns = new int[n];
        Arrays.fill(columns, NONE);
        TreeSet<Integer> taken = new TreeSet<>();
        for (int row = 0; row < n; row++) {
            for (int j = 0; j < n && columns[row] == NONE; j++) {
                if (a[row][j] == 0 || taken.contains(j)) continue;
                taken.add(j);
                if (taken.size() + structural(row + 1, taken) == most) columns[row] = j;
                else taken.remove(j);
            }
        }
        return columns;
    }

    public int heap() {
        int[] columns = matching();
        TreeSet<Integer> found = new TreeSet<>();
        for (int row = n - 1; row >= 0; row--) {
            if (columns[row] == NONE) {
                found.clear();
                found.add(row);
            }
        }
        for (int round = 0; round < n; round++) {
            for (int row : new TreeSet<>(found)) {
                for (int k = 0; k < n; k++) if (columns[k] != NONE && a[row][columns[k]] != 0) found.add(k);
            }
        }
        return bits(found);
    }

    public int columns(int set) {
        if (set < 0 || set >= 1 << n) return OUTSIDE;
        TreeSet<Integer> found = new TreeSet<>();
        for (int i = 0; i < n; i++) {
            for (int j = 0; j < n; j++) if ((set & 1 << i) != 0 && a[i][j] != 0) found.add(j);
        }
        return bits(found);
    }

    public int block(int row) {
        if (out(row)) return OUTSIDE;
        List<TreeSet<Integer>> all = blocks();
        if (all == null) return NOT;
        for (int k = 0; k < all.size(); k++) if (all.get(k).contains(row)) return k;
        throw new IllegalStateException("a row without a block");
    }

    public int rows(int block) {
        List<TreeSet<Integer>> all = blocks();
        if (all == null) return NOT;
        return block < 0 || block >= all.size() ? 0 : bits(all.get(block));
    }

    private List<TreeSet<Integer>> blocks() {
        int[] columns = matching();
        for (int c : columns) if (c == NONE) return null;
        List<TreeSet<Integer>> come = new ArrayList<>();
        for (int i = 0; i < n; i++) come.add(comeTo(i, columns));
        List<TreeSet<Integer>> unnumbered = new ArrayList<>();
        for (int i = 0; i < n; i++) {
            TreeSet<Integer> mine = new TreeSet<>();
            for (int k : come.get(i)) if (come.get(k).contains(i)) mine.add(k);
            mine.add(i);
            if (!unnumbered.contains(mine)) unnumbered.add(mine);
        }
        List<TreeSet<Integer>> numbered = new ArrayList<>();
        TreeSet<Integer> past = new TreeSet<>();
        while (!unnumbered.isEmpty()) {
            TreeSet<Integer> next = null;
            for (TreeSet<Integer> one : unnumbered) {
                TreeSet<Integer> may = new TreeSet<>(past);
                may.addAll(one);
                boolean ready = true;
                for (int row : one) for (int k = 0; k < n; k++) {
                    if (a[row][columns[k]] != 0 && !may.contains(k)) ready = false;
                }
                if (ready && (next == null || one.first() < next.first())) next = one;
            }
            unnumbered.remove(next);
            numbered.add(next);
            past.addAll(next);
        }
        return numbered;
    }

    private TreeSet<Integer> comeTo(int start, int[] columns) {
        TreeSet<Integer> found = new TreeSet<>(List.of(start));
        for (int round = 0; round < n; round++) {
            for (int row : new TreeSet<>(found)) {
                for (int k = 0; k < n; k++) if (a[row][columns[k]] != 0) found.add(k);
            }
        }
        return found;
    }

    private static int bits(Iterable<Integer> members) {
        int set = 0;
        for (int k : members) set |= 1 << k;
        return set;
    }

    // ---- the graph, orders

    private boolean[][] graph() {
        boolean[][] g = new boolean[n][n];
        for (int i = 0; i < n; i++) {
            for (int j = 0; j < n; j++) g[i][j] = i != j && (a[i][j] != 0 || a[j][i] != 0);
        }
        return g;
    }

    private static int pairs(boolean[][] g) {
        int sum = 0;
        for (int i = 0; i < g.length; i++) for (int j = 0; j < i; j++) if (g[i][j]) sum++;
        return sum;
    }

    public int joined(int node) {
        if (out(node)) return OUTSIDE;
        TreeSet<Integer> found = new TreeSet<>();
        for (int k = 0; k < n; k++) if (graph()[node][k]) found.add(k);
        return bits(found);
    }

    private List<Integer> asTheyAre() {
        List<Integer> line = new ArrayList<>();
        for (int k = 0; k < n; k++) line.add(k);
        return line;
    }

    public int order(int kind) {
        if (kind < 0 || kind > 3) return OUTSIDE;
        if (kind == 3 && n > 12) return NOT;
        if (kind == 0) order = asTheyAre();
        if (kind == 1) order = leastDegree();
        if (kind == 2) order = breadth();
        if (kind == 3) order = leastFill();
        return new Going(order).fill;
    }

    private static int degree(boolean[][] g, int v, TreeSet<Integer> gone) {
        int sum = 0;
        for (int k = 0; k < g.length; k++) if (g[v][k] && !gone.contains(k)) sum++;
        return sum;
    }

    /** Lets v go in g: how many pairs that makes. */
    private static int letGo(boolean[][] g, int v, TreeSet<Integer> gone) {
        int made = 0;
        for (int i = 0; i < g.length; i++) {
            for (int j = 0; j < i; j++) {
                if (i == v || j == v || gone.contains(i) || gone.contains(j)) continue;
                if (g[v][i] && g[v][j] && !g[i][j]) {
                    g[i][j] = true;
                    g[j][i] = true;
                    made++;
                }
            }
        }
        gone.add(v);
        return made;
    }

    private List<Integer> leastDegree() {
        boolean[][] g = graph();
        TreeSet<Integer> gone = new TreeSet<>();
        List<Integer> line = new ArrayList<>();
        while (line.size() < n) {
            int best = NONE;
            for (int v = n - 1; v >= 0; v--) {
                if (gone.contains(v)) continue;
                if (best == NONE || degree(g, v, gone) <= degree(g, best, gone)) best = v;
            }
            letGo(g, best, gone);
            line.add(best);
        }
        return line;
    }

    private List<Integer> breadth() {
        boolean[][] g = graph();
        List<Integer> byDegree = asTheyAre();
        byDegree.sort((x, y) -> {
            int dx = degree(g, x, new TreeSet<>());
            int dy = degree(g, y, new TreeSet<>());
            return dx != dy ? Integer.compare(dx, dy) : Integer.compare(x, y);
        });
        List<Integer> line = new ArrayList<>();
        while (line.size() < n) {
            int opener = NONE;
            for (int v : line) {
                for (int k = 0; k < n && opener == NONE; k++) if (g[v][k] && !line.contains(k)) opener = v;
            }
            if (opener == NONE) {
                for (int v : byDegree) {
                    if (!line.contains(v)) {
                        line.add(v);
                        break;
                    }
                }
            } else {
                for (int v : byDegree) if (g[opener][v] && !line.contains(v)) line.add(v);
            }
        }
        java.util.Collections.reverse(line);
        return line;
    }

    private List<Integer> bestLine;
    private int bestFill;

    /** Goes through all orders, lesser ones first; gives up one only when its fill is no less already. */
    private List<Integer> leastFill() {
        bestLine = null;
        bestFill = Integer.MAX_VALUE;
        goThrough(graph(), new TreeSet<>(), new ArrayList<>(), 0);
        return bestLine;
    }

    private void goThrough(boolean[][] g, TreeSet<Integer> gone, List<Integer> line, int fill) {
        if (fill >= bestFill) return;
        if (line.size() == n) {
            bestLine = new ArrayList<>(line);
            bestFill = fill;
            return;
        }
        for (int v = 0; v < n; v++) {
            if (gone.contains(v)) continue;
            boolean[][] next = new boolean[n][];
            for (int k = 0; k < n; k++) next[k] = g[k].clone();
            TreeSet<Integer> then = new TreeSet<>(gone);
            int made = letGo(next, v, then);
            line.add(v);
            goThrough(next, then, line, fill + made);
            line.remove(line.size() - 1);
        }
    }

    /** All that comes of it when the NODES go in an order. */
    private final class Going {
        final int[] parent = new int[n];
        final List<TreeSet<Integer>> sets = new ArrayList<>();
        final List<Integer> line;
        int fill;

        Going(List<Integer> line) {
            this.line = line;
            boolean[][] g = graph();
            TreeSet<Integer> gone = new TreeSet<>();
            for (int k = 0; k < n; k++) sets.add(new TreeSet<>());
            for (int v : line) {
                for (int k = 0; k < n; k++) if (g[v][k] && !gone.contains(k)) sets.get(v).add(k);
                fill += letGo(g, v, gone);
                parent[v] = NONE;
                for (int u : line) if (parent[v] == NONE && sets.get(v).contains(u)) parent[v] = u;
            }
        }

        int[] counts() {
            return sets.stream().mapToInt(TreeSet::size).toArray();
        }

        int height() {
            int best = 0;
            for (int v = 0; v < n; v++) {
                int length = 0;
                for (int u = v; u != NONE; u = parent[u]) length++;
                best = Math.max(best, length);
            }
            return best;
        }

        int hanging(int root) {
            int sum = 0;
            for (int v = 0; v < n; v++) for (int u = v; u != NONE; u = parent[u]) if (u == root) sum++;
            return sum;
        }
    }

    public int change(int k, int m) {
        if (out(k) || out(m)) return OUTSIDE;
        java.util.Collections.swap(order, k, m);
        return new Going(order).fill;
    }

    public int node(int k, int what) {
        if (out(k) || what < 0 || what > 3) return OUTSIDE;
        int v = order.get(k);
        Going going = new Going(order);
        if (what == 0) return v;
        if (what == 1) return going.sets.get(v).size();
        return what == 2 ? going.parent[v] : going.hanging(v);
    }

    public int going(int node) {
        return out(node) ? OUTSIDE : bits(new Going(order).sets.get(node));
    }

    // ---- by rests

    public int prime(int q) {
        if (q < 2 || q > 46337) return OUTSIDE;
        for (int d = 2; d < q; d++) if (q % d == 0) return OUTSIDE;
        int was = p;
        p = q;
        return was;
    }

    private BigInteger big(long v) {
        return BigInteger.valueOf(v).mod(BigInteger.valueOf(p));
    }

    private BigInteger over(BigInteger v, BigInteger w) {
        return v.multiply(w.modInverse(BigInteger.valueOf(p))).mod(BigInteger.valueOf(p));
    }

    private BigInteger[][] left;
    private BigInteger[][] upper;

    /** LEFT and UPPER by NODES, each cell from what the product must be. */
    public int stop() {
        left = new BigInteger[n][n];
        upper = new BigInteger[n][n];
        for (int i = 0; i < n; i++) {
            Arrays.fill(left[i], BigInteger.ZERO);
            Arrays.fill(upper[i], BigInteger.ZERO);
            left[i][i] = BigInteger.ONE;
        }
        for (int k = 0; k < n; k++) {
            int v = order.get(k);
            for (int m = k; m < n; m++) upper[v][order.get(m)] = big(a[v][order.get(m)]).subtract(
                    product(v, order.get(m), k)).mod(BigInteger.valueOf(p));
            if (upper[v][v].signum() == 0) return v;
            for (int m = k + 1; m < n; m++) left[order.get(m)][v] = over(big(a[order.get(m)][v]).subtract(
                    product(order.get(m), v, k)), upper[v][v]);
        }
        return NONE;
    }

    private BigInteger product(int i, int j, int before) {
        BigInteger sum = BigInteger.ZERO;
        for (int k = 0; k < before; k++) {
            sum = sum.add(left[i][order.get(k)].multiply(upper[order.get(k)][j]));
        }
        return sum;
    }

    public int factor(int i, int j, int what) {
        if (out(i) || out(j) || what < 0 || what > 1) return OUTSIDE;
        if (stop() != NONE) return NOT;
        return (what == 0 ? left : upper)[i][j].intValue();
    }

    public int full() {
        if (stop() != NONE) return NOT;
        int sum = 0;
        for (int i = 0; i < n; i++) {
            for (int j = 0; j < n; j++) {
                if (i != j && left[i][j].signum() != 0) sum++;
                if (i != j && upper[i][j].signum() != 0) sum++;
            }
        }
        return sum;
    }

    /** By whole numbers, each step divided by the pivot before it. */
    private static BigInteger whole(int[][] cells) {
        int m = cells.length;
        BigInteger[][] w = new BigInteger[m][m];
        for (int i = 0; i < m; i++) for (int j = 0; j < m; j++) w[i][j] = BigInteger.valueOf(cells[i][j]);
        BigInteger before = BigInteger.ONE;
        int sign = 1;
        for (int k = 0; k < m; k++) {
            int r = k;
            while (r < m && w[r][k].signum() == 0) r++;
            if (r == m) return BigInteger.ZERO;
            if (r != k) sign = -sign;
            BigInteger[] kept = w[r];
            w[r] = w[k];
            w[k] = kept;
            for (int i = k + 1; i < m; i++) {
                for (int j = k + 1; j < m; j++) {
                    w[i][j] = w[i][j].multiply(w[k][k]).subtract(w[i][k].multiply(w[k][j])).divide(before);
                }
            }
            before = w[k][k];
        }
        return sign < 0 ? before.negate() : before;
    }

    private int[][] copy() {
        int[][] c = new int[n][];
        for (int i = 0; i < n; i++) c[i] = a[i].clone();
        return c;
    }

    public int determinant() {
        return whole(a).mod(BigInteger.valueOf(p)).intValue();
    }

    public int rank() {
        List<BigInteger[]> rows = new ArrayList<>();
        for (int[] row : a) rows.add(Arrays.stream(row).mapToObj(this::big).toArray(BigInteger[]::new));
        int found = 0;
        for (int j = 0; j < n; j++) {
            int column = j;
            BigInteger[] pivot = rows.stream().filter(r -> r[column].signum() != 0).findFirst().orElse(null);
            if (pivot == null) continue;
            found++;
            rows.remove(pivot);
            for (BigInteger[] row : rows) {
                BigInteger times = over(row[j], pivot[j]);
                for (int k = 0; k < n; k++) {
                    row[k] = row[k].subtract(times.multiply(pivot[k])).mod(BigInteger.valueOf(p));
                }
            }
        }
        return found;
    }

    private static int[][] withColumn(int[][] cells, int column, int[] values) {
        for (int i = 0; i < cells.length; i++) cells[i][column] = values[i];
        return cells;
    }

    public int solution(int i) {
        if (out(i)) return OUTSIDE;
        if (determinant() == 0) return NOT;
        return over(whole(withColumn(copy(), i, b)), whole(a)).intValue();
    }

    public int inverse(int i, int j) {
        if (out(i) || out(j)) return OUTSIDE;
        if (determinant() == 0) return NOT;
        int[] one = new int[n];
        one[j] = 1;
        return over(whole(withColumn(copy(), i, one)), whole(a)).intValue();
    }

    public int changed(int i, int j, int v) {
        if (out(i) || out(j) || v < -99 || v > 99) return OUTSIDE;
        int[][] c = copy();
        c[i][j] = v;
        return whole(c).mod(BigInteger.valueOf(p)).intValue();
    }

    // ---- by fractions

    public long exact(int i, int what) {
        if (what < 0 || what > 2 || what < 2 && out(i)) return OUTSIDE;
        if (n > 5) return NOT;
        BigInteger lower = whole(a);
        if (what == 2) return lower.longValueExact();
        if (lower.signum() == 0) return NOT;
        BigInteger upper = whole(withColumn(copy(), i, b));
        BigInteger shared = upper.gcd(lower).multiply(BigInteger.valueOf(lower.signum()));
        return (what == 0 ? upper : lower).divide(shared).longValueExact();
    }
}
