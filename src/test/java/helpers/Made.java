import java.util.Random;

/** Objects of ThinTables in a state that a test wants. */
final class Made {
    private Made() {
    }

    static int[] row(int... values) {
        return values;
    }

    static ThinTables sized(int n) {
        ThinTables x = new ThinTables();
        x.size(n);
        return x;
    }

    /** A table from its rows. */
    static ThinTables table(int[]... rows) {
        ThinTables x = sized(rows.length);
        for (int i = 0; i < rows.length; i++) {
            for (int j = 0; j < rows.length; j++) {
                x.set(i, j, rows[i][j]);
            }
        }
        return x;
    }

    /** A table of n rows with 1 at (i, j) for each pair i, j. */
    static ThinTables graph(int n, int... ends) {
        ThinTables x = sized(n);
        for (int k = 0; k + 1 < ends.length; k += 2) {
            x.set(ends[k], ends[k + 1], 1);
        }
        return x;
    }

    /** n rows, all cells v. */
    static ThinTables dense(int n, int v) {
        ThinTables x = sized(n);
        for (int k = 0; k < n * n; k++) {
            x.set(k / n, k % n, v);
        }
        return x;
    }

    /** n rows with v in like places. */
    static ThinTables diagonal(int n, int v) {
        ThinTables x = sized(n);
        for (int k = 0; k < n; k++) {
            x.set(k, k, v);
        }
        return x;
    }

    /** Each NODE joined to the next one, and the last to the first. */
    static ThinTables ring(int n) {
        ThinTables x = sized(n);
        for (int k = 0; k < n; k++) {
            x.set(k, (k + 1) % n, 1);
        }
        return x;
    }

    /** One NODE joined to all others. */
    static ThinTables star(int n, int centre) {
        ThinTables x = sized(n);
        for (int k = 0; k < n; k++) {
            if (k != centre) {
                x.set(centre, k, 1);
            }
        }
        return x;
    }

    static void side(ThinTables x, int... values) {
        for (int i = 0; i < values.length; i++) {
            x.side(i, values[i]);
        }
    }

    /** Cells that chance (always the same for a seed) gives, all within -most and most. */
    static int[][] cellsByChance(int n, int most, long seed) {
        Random chance = new Random(seed);
        int[][] cells = new int[n][n];
        for (int k = 0; k < n * n; k++) {
            cells[k / n][k % n] = chance.nextInt(2 * most + 1) - most;
        }
        return cells;
    }
}
