/** THE MATCHING, THE HEAP, BLOCKS, promises 7 to 11: sentence by sentence. */
final class EdgesOfMatching {
    private static final int NONE = -1, OUTSIDE = -100001, NOT = -100002;
    private static final int LOWEST = Integer.MIN_VALUE, HIGHEST = Integer.MAX_VALUE;
    private static final int ALL = (1 << 20) - 1;
    private final Sentences s;

    EdgesOfMatching(Sentences sentences) {
        s = sentences;
    }

    void run() {
        noTwoInOne();
        mostPlaces();
        firstRow();
        leastColumn();
        laterRows();
        everySmallTable();
        heapFromLeastRow();
        heapGrows();
        heapHasFewerColumns();
        leads();
        blocksNumbered();
        matched();
        heap();
        columns();
        block();
        rows();
    }

    private void noTwoInOne() {
        s.of("Terms 2", "A MATCHING: PLACES, no two in one row or column.");
        ThinTables row = Made.sized(20);
        ThinTables column = Made.sized(20);
        for (int k = 0; k < 20; k++) {
            row.set(7, k, 1);
            column.set(k, 7, 1);
        }
        s.is("all PLACES in one row", row.count(2), 1);
        s.is("all PLACES in one column", column.count(2), 1);
        for (int k = 0; k < 20; k++) {
            row.set(k, 7, 1);
        }
        s.is("a row and a column", row.count(2), 2);
    }

    private void mostPlaces() {
        s.of("Terms 2", "RANK: the most PLACES of one.");
        s.is("no PLACE", Made.sized(20).count(2), 0);
        s.is("one PLACE", Made.graph(20, 19, 19).count(2), 1);
        s.is("all PLACES", Made.dense(20, 1).count(2), 20);
        s.is("(0, 0) alone would bar row 1", Made.graph(2, 0, 0, 0, 1, 1, 0).count(2), 2);
        // the rests do not matter: all rows are alike
        s.is("rows alike", Made.dense(2, 1).count(2), 2);
    }

    private void firstRow() {
        s.of("Terms 2", "THE MATCHING has RANK PLACES: row 0 is in it, if it can be in one of RANK PLACES");
        ThinTables x = Made.graph(4, 0, 3, 1, 3, 2, 3, 3, 3);
        s.is("all rows have one column: row 0 has it", x.matched(0), 3);
        s.is("row 1 has none", x.matched(1), NONE);
        s.is("row 3 has none", x.matched(3), NONE);
        x.set(0, 3, 0);
        s.is("row 0 has no PLACE", x.matched(0), NONE);
        s.is("then row 1 has it", x.matched(1), 3);
        ThinTables y = Made.graph(4, 0, 0, 1, 0, 2, 1, 3, 0, 3, 1);
        int matchedRows = 0;
        for (int i = 0; i < 4; i++) {
            matchedRows += y.matched(i) == NONE ? 0 : 1;
        }
        s.is("RANK PLACES", matchedRows, y.count(2));
    }

    private void leastColumn() {
        s.of("Terms 2", "; with the least column that lets it");
        s.is("column 0 lets it", Made.graph(2, 0, 0, 0, 1, 1, 1).matched(0), 0);
        s.is("column 0 does not: row 1 needs it", Made.graph(2, 0, 0, 0, 1, 1, 0).matched(0), 1);
        s.is("no column is left for row 2 anyhow", Made.graph(3, 0, 0, 0, 1, 1, 0, 2, 0).matched(0), 1);
        s.is("row 1 would have none anyhow", Made.graph(2, 0, 0, 1, 0).matched(0), 0);
        s.is("the last column alone lets it", Made.graph(3, 0, 0, 0, 1, 0, 2, 1, 0, 2, 1).matched(0), 2);
    }

    private void laterRows() {
        s.of("Terms 2", "; row 1 likewise, as that is; and so on.");
        ThinTables all = Made.dense(20, 1);
        ThinTables stairs = Made.sized(20);
        for (int i = 0; i < 20; i++) {
            for (int j = 0; j < 20 - i; j++) {
                stairs.set(i, j, 1);
            }
        }
        for (int i = 0; i < 20; i++) {
            s.is("all PLACES: row " + i, all.matched(i), i);
            s.is("stairs: row " + i + " leaves the lesser columns to those below", stairs.matched(i), 19 - i);
        }
        // rows 1 and 2 share a column: row 1 has it, though row 2 comes with none
        ThinTables x = Made.graph(4, 0, 0, 1, 1, 2, 1, 3, 1, 3, 2);
        int[] columns = {0, 1, NONE, 2};
        for (int i = 0; i < 4; i++) {
            s.is("row " + i, x.matched(i), columns[i]);
        }
    }

    /** All tables of three rows and many of four: THE MATCHING of all that there are is told just by the words. */
    private void everySmallTable() {
        s.of("Terms 2", "row 0 is in it, if it can be in one of RANK PLACES; with the least column that lets it; "
                + "row 1 likewise, as that is; and so on.");
        for (int bits = 0; bits < 512; bits++) {
            smallTable(3, bits);
        }
        for (int bits = 0; bits < 1 << 16; bits += 7) {
            smallTable(4, bits);
        }
    }

    private void smallTable(int n, int bits) {
        ThinTables x = Made.sized(n);
        for (int k = 0; k < n * n; k++) {
            x.set(k / n, k % n, bits >> k & 1);
        }
        int[] columns = new int[n];
        int rank = most(n, bits, 0, 0);
        int taken = 0;
        for (int row = 0; row < n; row++) {
            columns[row] = NONE;
            for (int j = 0; j < n && columns[row] == NONE; j++) {
                boolean free = (bits >> row * n + j & 1) != 0 && (taken >> j & 1) == 0;
                int with = Integer.bitCount(taken) + 1;
                if (free && with + most(n, bits, row + 1, taken | 1 << j) == rank) {
                    columns[row] = j;
                    taken |= 1 << j;
                }
            }
            s.is("row " + row + " of table " + bits, x.matched(row), columns[row]);
        }
        s.is("RANK of table " + bits, x.count(2), rank);
    }

    /** The most PLACES of a MATCHING of the rows from this one on, without the columns taken: all are tried. */
    private static int most(int n, int bits, int row, int taken) {
        if (row == n) {
            return 0;
        }
        int best = most(n, bits, row + 1, taken);
        for (int j = 0; j < n; j++) {
            if ((bits >> row * n + j & 1) != 0 && (taken >> j & 1) == 0) {
                best = Math.max(best, 1 + most(n, bits, row + 1, taken | 1 << j));
            }
        }
        return best;
    }

    private void heapFromLeastRow() {
        s.of("Terms 2", "THE HEAP, if RANK is below n: the rows that are come to from the least row that "
                + "THE MATCHING has not: it;");
        s.is("no PLACES: the first row alone", Made.sized(20).heap(), 1);
        s.is("n is 1", Made.sized(1).heap(), 1);
        ThinTables x = Made.diagonal(20, 1);
        x.set(19, 19, 0);
        s.is("the last row alone", x.heap(), 1 << 19);
        x.set(4, 4, 0);
        s.is("of two rows the least", x.heap(), 1 << 4);
        // rows 0, 1 share column 0, rows 2, 3 column 2: two heaps, and the first one counts
        s.is("of two heaps that of the least row", Made.graph(4, 0, 0, 1, 0, 2, 2, 3, 2).heap(), 3);
        s.of("Terms 2", "Else it is empty.");
        s.is("RANK is n", Made.dense(20, 1).heap(), 0);
        s.is("RANK is n, n is 1", Made.diagonal(1, -1).heap(), 0);
    }

    private void heapGrows() {
        s.of("Terms 2", "and with a row each row that THE MATCHING has at a column where that row has a PLACE.");
        ThinTables x = Made.graph(4, 0, 0, 1, 0, 1, 1, 2, 1, 2, 2, 3, 2);
        s.is("row 3 has none", x.matched(3), NONE);
        s.is("one by one up to row 0", x.heap(), 15);
        x.set(1, 0, 0);
        s.is("row 1 leads no further", x.heap(), 14);
        x.set(2, 1, 0);
        s.is("row 2 leads no further", x.heap(), 12);
        x.set(3, 2, 0);
        s.is("row 3 alone", x.heap(), 8);
        // row 0 leads to the heap, but the heap does not lead to it
        s.is("what leads to it is not in it", Made.graph(3, 0, 0, 0, 1, 1, 1, 2, 1).heap(), 6);
    }

    /** All tables of three rows: THE HEAP has one column fewer than rows, or RANK is n. */
    private void heapHasFewerColumns() {
        s.of("Terms 2", "(They have fewer columns than they are.)");
        for (int bits = 0; bits < 512; bits++) {
            ThinTables x = Made.sized(3);
            for (int k = 0; k < 9; k++) {
                x.set(k / 3, k % 3, bits >> k & 1);
            }
            int heap = x.heap();
            s.holds("empty just if RANK is n, table " + bits, (heap == 0) == (x.count(2) == 3));
            s.is("columns, table " + bits, Integer.bitCount(x.columns(heap)),
                    Math.max(0, Integer.bitCount(heap) - 1));
        }
    }

    private void leads() {
        s.of("Terms 2", "BLOCKS, if RANK is n: row i LEADS to row k, if it has a PLACE in k's column of THE MATCHING;");
        ThinTables turned = Made.ring(20);
        s.is("each row has the next one's column and nothing else", turned.count(3), 20);
        s.is("row 19 leads to itself alone", turned.rows(19), 1 << 19);
        turned.set(19, 0, 0);
        s.is("RANK is below n", turned.count(3), NOT);
        s.of("Terms 2", "rows that lead to one another (by others, too) are one BLOCK.");
        ThinTables ring = Made.ring(20);
        for (int k = 0; k < 20; k++) {
            ring.set(k, k, 1);
        }
        s.is("round by all others", ring.count(3), 1);
        s.is("all rows", ring.rows(0), ALL);
        s.is("two rows, straight", Made.dense(2, 1).rows(0), 3);
        s.is("one way is not enough", Made.graph(2, 0, 0, 0, 1, 1, 1).count(3), 2);
        ThinTables less = Made.dense(2, 1);
        s.is("both ways", less.count(3), 1);
        less.set(1, 0, 0);
        s.is("one way is left", less.count(3), 2);
        // row 1 leads to row 0 and comes back by row 2
        s.is("by another", Made.graph(3, 0, 0, 0, 2, 1, 1, 1, 0, 2, 2, 2, 1).count(3), 1);
    }

    private void blocksNumbered() {
        s.of("Terms 2", "BLOCKS are numbered so: the next one is that with the least row of those of which all rows "
                + "lead to rows of their own and of BLOCKS numbered by then alone.");
        ThinTables above = Made.sized(20);
        ThinTables below = Made.sized(20);
        for (int k = 0; k < 400; k++) {
            if (k / 20 <= k % 20) {
                above.set(k / 20, k % 20, 1);
                below.set(k % 20, k / 20, 1);
            }
        }
        for (int i = 0; i < 20; i++) {
            s.is("row " + i + " leads to all behind it", above.block(i), 19 - i);
            s.is("row " + i + " leads to all ahead of it", below.block(i), i);
        }
        // row 0 waits for row 2; rows 1 and 3 wait for nothing
        ThinTables x = Made.graph(4, 0, 0, 0, 2, 1, 1, 2, 2, 3, 3);
        int[] rows = {2, 4, 1, 8, 0};
        for (int k = 0; k < rows.length; k++) {
            s.is("BLOCK " + k, x.rows(k), rows[k]);
        }
        // rows 0 and 3 are one BLOCK that waits for row 2: all its rows count, not row 0 alone
        ThinTables y = Made.graph(4, 0, 0, 0, 3, 3, 3, 3, 0, 3, 2, 2, 2, 1, 1);
        int[] more = {2, 4, 9, 0};
        for (int k = 0; k < more.length; k++) {
            s.is("waiting by its last row: BLOCK " + k, y.rows(k), more[k]);
        }
    }

    private void matched() {
        s.of("Promise 7", "The column of a row in THE MATCHING; NONE.");
        ThinTables x = Made.graph(20, 0, 19, 19, 0);
        s.is("the first row", x.matched(0), 19);
        s.is("the last row", x.matched(19), 0);
        s.is("a row without a PLACE", x.matched(10), NONE);
        x.set(10, 0, 1);
        s.is("a row whose PLACE is now its own", x.matched(10), 0);
        s.is("the later row has it no more", x.matched(19), NONE);
        s.is("n is 1", Made.diagonal(1, 1).matched(0), 0);
        s.of("Promise 7", "OUTSIDE.");
        s.each("row", OUTSIDE, x::matched, -1, 20, 32, LOWEST, HIGHEST);
    }

    private void heap() {
        s.of("Promise 8", "THE HEAP.");
        ThinTables x = Made.sized(20);
        for (int i = 0; i < 20; i++) {
            x.set(i, Math.min(i, 18), 1);
            x.set(i, Math.max(i - 1, 0), 1);
        }
        s.is("20 rows, 19 columns that hang together: the greatest", x.heap(), ALL);
        x.set(0, 19, 1);
        s.is("a column more: the least", x.heap(), 0);
    }

    private void columns() {
        s.of("Promise 9", "The columns at which the rows of a SET have PLACES.");
        ThinTables x = Made.graph(4, 0, 0, 0, 3, 1, 3, 3, 1);
        s.is("the empty SET", x.columns(0), 0);
        s.is("a row", x.columns(1), 9);
        s.is("a row without PLACES", x.columns(4), 0);
        s.is("a column that two rows have counts once", x.columns(3), 9);
        s.is("all rows", x.columns(15), 11);
        s.is("all of 20", Made.dense(20, -1).columns(ALL), ALL);
        s.of("Promise 9", "OUTSIDE (the SET 0 .. 2^n - 1).");
        s.each("of 4 rows", OUTSIDE, x::columns, -1, 16, 31, LOWEST, HIGHEST);
        ThinTables one = Made.diagonal(1, 1);
        s.is("n is 1: the greatest", one.columns(1), 1);
        s.is("n is 1: too great", one.columns(2), OUTSIDE);
        ThinTables most = Made.sized(20);
        s.is("n is 20: the greatest", most.columns(ALL), 0);
        s.each("of 20 rows", OUTSIDE, most::columns, -1, ALL + 1, LOWEST, HIGHEST);
    }

    private void block() {
        s.of("Promise 10", "The BLOCK of a row.");
        ThinTables x = Made.diagonal(20, 1);
        s.is("the first row", x.block(0), 0);
        s.is("the last row", x.block(19), 19);
        s.is("n is 1", Made.diagonal(1, 5).block(0), 0);
        s.is("all in one: the last row", Made.dense(20, 1).block(19), 0);
        s.of("Promise 10", "OUTSIDE");
        s.each("row", OUTSIDE, x::block, -1, 20, 32, LOWEST, HIGHEST);
        s.of("Promise 10", "; NOT: RANK is below n.");
        x.set(19, 19, 0);
        s.is("RANK is n - 1, a row that is matched", x.block(0), NOT);
        s.is("RANK is n - 1, the row that is not", x.block(19), NOT);
        s.each("OUTSIDE comes first", OUTSIDE, x::block, -1, 20);
        s.is("no PLACES", new ThinTables().block(3), NOT);
    }

    private void rows() {
        s.of("Promise 11", "The rows of a BLOCK, as a SET");
        ThinTables x = Made.diagonal(20, 1);
        s.is("the first", x.rows(0), 1);
        s.is("the last", x.rows(19), 1 << 19);
        s.is("all in one", Made.dense(20, 1).rows(0), ALL);
        s.of("Promise 11", "; 0: there is none such.");
        s.each("of 20 BLOCKS", 0, x::rows, -1, 20, 32, LOWEST, HIGHEST);
        s.each("of one BLOCK", 0, Made.dense(4, 1)::rows, 1, 2, 3, 4, -1);
        s.of("Promise 11", "NOT: RANK is below n.");
        x.set(19, 19, 0);
        s.each("RANK is n - 1", NOT, x::rows, 0, 19, 20, -1, LOWEST, HIGHEST);
    }
}
