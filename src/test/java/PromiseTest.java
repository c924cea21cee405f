/** Each promise of the document by hand: ordinary inputs, edges, wrong inputs. */
public final class PromiseTest {
    private static final int NONE = -1, OUTSIDE = -100001, NOT = -100002;
    private static final int LOWEST = Integer.MIN_VALUE, HIGHEST = Integer.MAX_VALUE;
    private static final Due due = new Due();

    public static void main(String[] args) {
        newObject();
        size();
        set();
        cell();
        side();
        count();
        matched();
        heap();
        columns();
        block();
        rows();
        joined();
        orderAsTheyAre();
        orderByLeastDegree();
        orderByBreadth();
        orderByLeastFill();
        change();
        node();
        going();
        prime();
        stop();
        factor();
        full();
        determinant();
        rank();
        solution();
        inverse();
        changed();
        exact();
        refusalsChangeNothing();
        objectsShareNothing();
        due.end();
    }

    private static ThinTables table(int[]... rows) {
        return Made.table(rows);
    }

    private static int[] row(int... values) {
        return values;
    }

    private static ThinTables graph(int n, int... ends) {
        return Made.graph(n, ends);
    }

    private static void side(ThinTables x, int... values) {
        Made.side(x, values);
    }

    private static void orderIs(String what, ThinTables x, int... nodes) {
        for (int k = 0; k < nodes.length; k++) {
            due.is(what + ", place " + k, x.node(k, 0), nodes[k]);
        }
    }

    private static void newObject() {
        ThinTables x = new ThinTables();
        due.is("new: rows", x.count(0), 4);
        for (int i = 0; i < 4; i++) {
            for (int j = 0; j < 4; j++) {
                due.is("new: cell", x.cell(i, j), 0);
            }
            due.is("new: order", x.node(i, 0), i);
            due.is("new: side", x.side(i, 0), 0);
        }
        due.is("new: cell(4, 0)", x.cell(4, 0), OUTSIDE);
        due.is("new: P", x.count(8), 10007);
        due.is("NONE", ThinTables.NONE, NONE);
        due.is("OUTSIDE", ThinTables.OUTSIDE, OUTSIDE);
        due.is("NOT", ThinTables.NOT, NOT);
    }

    private static void size() {
        ThinTables x = new ThinTables();
        due.is("size: first", x.size(20), 4);
        x.set(19, 19, 7);
        x.set(0, 0, 7);
        x.side(19, 7);
        x.side(0, 7);
        x.change(0, 19);
        x.prime(7);
        for (int wrong : new int[] {0, 21, -1, LOWEST, HIGHEST}) {
            due.is("size: wrong", x.size(wrong), OUTSIDE);
        }
        due.is("size: wrong changes nothing", x.cell(19, 19), 7);
        due.is("size: the same again", x.size(20), 20);
        due.is("size: cells are 0", x.cell(19, 19), 0);
        due.is("size: no places", x.count(1), 0);
        due.is("size: side is 0", x.side(19, 0), 0);
        due.is("size: order", x.node(0, 0), 0);
        due.is("size: P stays", x.count(8), 7);
        due.is("size: least", x.size(1), 20);
        due.is("size: row 1 is out", x.cell(1, 0), OUTSIDE);
        x.set(0, 0, 1);
        x.size(2);
        due.is("size: wider is 0 too", x.count(1), 0);
    }

    private static void set() {
        ThinTables x = new ThinTables();
        due.is("set: was 0", x.set(3, 2, 99), 0);
        due.is("set: was 99", x.set(3, 2, -99), 99);
        due.is("set: was -99", x.set(3, 2, 0), -99);
        due.is("set: 0 is no place", x.count(1), 0);
        x.set(0, 1, 5);
        due.is("set: wrong value", x.set(0, 1, 100), OUTSIDE);
        due.is("set: wrong value", x.set(0, 1, -100), OUTSIDE);
        due.is("set: wrong row", x.set(-1, 1, 1), OUTSIDE);
        due.is("set: wrong row", x.set(4, 1, 1), OUTSIDE);
        due.is("set: wrong column", x.set(1, -1, 1), OUTSIDE);
        due.is("set: wrong column", x.set(1, 4, 1), OUTSIDE);
        due.is("set: wrong by far", x.set(HIGHEST, LOWEST, HIGHEST), OUTSIDE);
        due.is("set: as it was", x.cell(0, 1), 5);
        due.is("set: the other cell", x.cell(1, 0), 0);
    }

    private static void cell() {
        ThinTables x = table(row(1, 2), row(3, 4));
        due.is("cell(0, 1)", x.cell(0, 1), 2);
        due.is("cell(1, 0)", x.cell(1, 0), 3);
        due.is("cell(2, 0)", x.cell(2, 0), OUTSIDE);
        due.is("cell(0, 2)", x.cell(0, 2), OUTSIDE);
        due.is("cell(-1, 0)", x.cell(-1, 0), OUTSIDE);
        due.is("cell(0, -1)", x.cell(0, -1), OUTSIDE);
    }

    private static void side() {
        ThinTables x = new ThinTables();
        due.is("side: was 0", x.side(3, -99), 0);
        due.is("side: wrong", x.side(3, -100), OUTSIDE);
        due.is("side: wrong", x.side(3, 100), OUTSIDE);
        due.is("side: wrong", x.side(4, 1), OUTSIDE);
        due.is("side: wrong", x.side(-1, 1), OUTSIDE);
        due.is("side: was -99", x.side(3, 99), -99);
        due.is("side: was 99", x.side(3, 0), 99);
        due.is("side: no cell", x.count(1), 0);
    }

    private static void count() {
        // a ring 0 1 2 3 with places on both sides of one pair, and one NODE on its own
        ThinTables x = graph(5, 0, 1, 1, 0, 1, 2, 2, 3, 3, 0, 4, 4);
        int[] dues = {5, 6, 5, 5, 4, 1, 9, 4, 10007, 2};
        for (int what = 0; what < dues.length; what++) {
            due.is("count(" + what + ")", x.count(what), dues[what]);
        }
        due.is("count(-1)", x.count(-1), OUTSIDE);
        due.is("count(10)", x.count(10), OUTSIDE);
        due.is("count(least)", x.count(LOWEST), OUTSIDE);
        x.set(4, 4, 0);
        due.is("count: RANK below n", x.count(2), 4);
        due.is("count: no BLOCKS", x.count(3), NOT);
        ThinTables one = graph(1);
        due.is("count: HEIGHT of one", one.count(7), 1);
        due.is("count: WORK of one", one.count(6), 0);
        ThinTables dense = new ThinTables();
        dense.size(20);
        for (int i = 0; i < 20; i++) {
            for (int j = 0; j < 20; j++) {
                dense.set(i, j, 1);
            }
        }
        due.is("count: all PLACES", dense.count(1), 400);
        due.is("count: all pairs", dense.count(4), 190);
        due.is("count: no FILL", dense.count(5), 0);
        due.is("count: most WORK", dense.count(6), 2470);
        due.is("count: most HEIGHT", dense.count(7), 20);
        due.is("count: one BLOCK", dense.count(3), 1);
    }

    private static void matched() {
        // row 0 could have column 0, but then row 1 had none
        ThinTables x = graph(3, 0, 0, 0, 2, 1, 0, 2, 0, 2, 1, 2, 2);
        due.is("matched(0)", x.matched(0), 2);
        due.is("matched(1)", x.matched(1), 0);
        due.is("matched(2)", x.matched(2), 1);
        due.is("matched(3)", x.matched(3), OUTSIDE);
        due.is("matched(-1)", x.matched(-1), OUTSIDE);
        // rows 0, 1, 2 share two columns: the first rows get them; each may have the least
        ThinTables y = graph(4, 0, 1, 0, 2, 1, 1, 1, 2, 2, 1, 3, 3);
        due.is("matched: first row, least column", y.matched(0), 1);
        due.is("matched: second row", y.matched(1), 2);
        due.is("matched: third has none", y.matched(2), NONE);
        due.is("matched: fourth", y.matched(3), 3);
        // row 1 goes ahead of row 3, though both find a column at first
        ThinTables ahead = graph(5, 0, 0, 0, 2, 1, 0, 1, 1, 2, 0, 2, 3, 3, 3, 4, 1);
        int[] dues = {2, 0, 3, NONE, 1};
        for (int i = 0; i < 5; i++) {
            due.is("matched: ahead", ahead.matched(i), dues[i]);
        }
        // a column that is left open on the way is taken by a later row
        ThinTables open = graph(7, 0, 0, 0, 3, 1, 1, 1, 2, 2, 5, 3, 1, 3, 4, 5, 3, 5, 4, 5, 5, 5, 6, 6, 0, 6, 4);
        int[] openDues = {0, 2, 5, 1, NONE, 3, 4};
        for (int i = 0; i < 7; i++) {
            due.is("matched: open", open.matched(i), openDues[i]);
        }
        // row 0 without a PLACE is not in it
        ThinTables z = graph(2, 1, 1);
        due.is("matched: no place", z.matched(0), NONE);
        due.is("matched: its own", z.matched(1), 1);
        // each row has to leave the lesser column to the next one
        ThinTables chain = graph(20);
        for (int i = 0; i < 20; i++) {
            chain.set(i, i, 1);
            if (i < 19) {
                chain.set(i, i + 1, 1);
            }
        }
        chain.set(19, 0, 1);
        chain.set(19, 19, 0);
        for (int i = 0; i < 20; i++) {
            due.is("matched: chain", chain.matched(i), (i + 1) % 20);
        }
    }

    private static void heap() {
        ThinTables x = graph(5, 0, 1, 1, 2, 2, 1, 2, 2, 3, 0, 4, 0);
        // rows 0, 1 have columns 1, 2; row 2 has none left, and leads to both; row 4 is another heap's
        due.is("heap", x.heap(), 7);
        due.is("heap: fewer columns", Integer.bitCount(x.columns(7)), 2);
        x.set(2, 3, 1);
        due.is("heap: from the next row", x.heap(), 8 | 16);
        x.set(4, 4, 1);
        due.is("heap: none", x.heap(), 0);
        // 20 rows over 19 columns that all hang together
        ThinTables all = graph(20);
        for (int i = 0; i < 19; i++) {
            all.set(i + 1, i, 1);
            all.set(i, i, 1);
        }
        all.set(18, 18, 0);
        all.set(0, 18, 1);
        due.is("heap: all rows", all.heap(), (1 << 20) - 1);
        due.is("heap: an empty row", graph(3, 0, 0, 2, 2).heap(), 2);
        due.is("heap: n is 1", graph(1).heap(), 1);
    }

    private static void columns() {
        ThinTables x = graph(3, 0, 0, 0, 2, 1, 1, 2, 2);
        int[] dues = {0, 5, 2, 7, 4, 5, 6, 7};
        for (int set = 0; set < 8; set++) {
            due.is("columns(" + set + ")", x.columns(set), dues[set]);
        }
        due.is("columns(8)", x.columns(8), OUTSIDE);
        due.is("columns(-1)", x.columns(-1), OUTSIDE);
        x.size(20);
        due.is("columns: all", x.columns((1 << 20) - 1), 0);
        due.is("columns: more than all", x.columns(1 << 20), OUTSIDE);
        due.is("columns: by far", x.columns(HIGHEST), OUTSIDE);
    }

    private static void block() {
        // rows 0 and 2 lead to one another and to row 3; row 1 stands alone
        ThinTables x = graph(4, 0, 0, 0, 2, 2, 2, 2, 0, 2, 3, 3, 3, 1, 1);
        due.is("block(1) is the first that may", x.block(1), 0);
        due.is("block(3) is ahead of what leads to it", x.block(3), 1);
        due.is("block(0)", x.block(0), 2);
        due.is("block(2)", x.block(2), 2);
        due.is("block(4)", x.block(4), OUTSIDE);
        due.is("block(-1)", x.block(-1), OUTSIDE);
        x.set(1, 1, 0);
        due.is("block: RANK below n", x.block(0), NOT);
        due.is("block: OUTSIDE is first", x.block(4), OUTSIDE);
        // a way round over three rows, with columns that are not the rows' own
        ThinTables ring = graph(3, 0, 1, 0, 2, 1, 2, 1, 0, 2, 0, 2, 1);
        due.is("block: ring", ring.count(3), 1);
        // numbers go by the least row that may, not by the row that was freed first
        ThinTables late = graph(4, 0, 0, 0, 3, 1, 1, 2, 2, 3, 3);
        due.is("block: late 0", late.block(1), 0);
        due.is("block: late 1", late.block(2), 1);
        due.is("block: late 2", late.block(3), 2);
        due.is("block: late 3", late.block(0), 3);
        late.set(0, 3, 0);
        late.set(0, 1, 1);
        due.is("block: freed by block 0", late.block(0), 1);
    }

    private static void rows() {
        ThinTables x = graph(4, 0, 0, 0, 2, 2, 2, 2, 0, 2, 3, 3, 3, 1, 1);
        int[] dues = {2, 8, 5, 0};
        for (int k = 0; k < dues.length; k++) {
            due.is("rows(" + k + ")", x.rows(k), dues[k]);
        }
        due.is("rows(-1)", x.rows(-1), 0);
        due.is("rows(least)", x.rows(LOWEST), 0);
        due.is("rows(most)", x.rows(HIGHEST), 0);
        x.set(3, 3, 0);
        due.is("rows: RANK below n", x.rows(0), NOT);
        ThinTables single = graph(20);
        for (int i = 0; i < 20; i++) {
            single.set(i, i, -1);
        }
        due.is("rows: a BLOCK each", single.rows(19), 1 << 19);
        due.is("rows: no more BLOCKS", single.rows(20), 0);
        due.is("rows: RANK below n, none such", x.rows(-1), NOT);
    }

    private static void joined() {
        ThinTables x = graph(4, 0, 1, 2, 0, 3, 3);
        int[] dues = {6, 1, 1, 0};
        for (int k = 0; k < dues.length; k++) {
            due.is("joined(" + k + ")", x.joined(k), dues[k]);
        }
        due.is("joined(4)", x.joined(4), OUTSIDE);
        due.is("joined(-1)", x.joined(-1), OUTSIDE);
        x.set(1, 0, 2);
        x.set(0, 1, 0);
        due.is("joined by the other cell", x.joined(0), 6);
        x.set(1, 0, 0);
        due.is("joined no more", x.joined(0), 4);
        x.order(1);
        due.is("joined: elimination joins none", x.count(4), 1);
    }

    private static void orderAsTheyAre() {
        ThinTables x = graph(5, 0, 1, 0, 2, 0, 3);
        x.change(0, 4);
        due.is("order(0)", x.order(0), 3);
        orderIs("order(0)", x, 0, 1, 2, 3, 4);
        due.is("order(-1)", x.order(-1), OUTSIDE);
        due.is("order(4)", x.order(4), OUTSIDE);
        x.size(13);
        due.is("order(3) of 13", x.order(3), NOT);
        due.is("order(4) of 13", x.order(4), OUTSIDE);
    }

    private static void orderByLeastDegree() {
        // 3 hangs on 0; the ring 0 1 4 2; when 3 is gone all have two
        ThinTables x = graph(5, 0, 1, 1, 4, 4, 2, 2, 0, 3, 0);
        due.is("order(1)", x.order(1), 1);
        orderIs("order(1)", x, 3, 0, 1, 2, 4);
        // as 0 goes, 2 and 5 are joined: 2 has three then, as 1 has, and 1 is the lesser
        ThinTables y = graph(7, 0, 5, 0, 2, 5, 3, 5, 4, 2, 3, 2, 4, 3, 1, 3, 6, 4, 1, 4, 6, 1, 6);
        due.is("order(1): joins on the way", y.order(1), 2);
        orderIs("order(1): joins on the way", y, 0, 1, 6, 2, 3, 4, 5);
        // the order stays when cells change
        x.set(3, 1, 1);
        orderIs("order(1) stays", x, 3, 0, 1, 2, 4);
        due.is("order(1) stays, FILL is new", x.count(5), 1);
    }

    private static void orderByBreadth() {
        // 2 joined to 0 alone; 0 to 2, 1, 3; 3 to 0 and 4; 1 to 0; 5 alone
        ThinTables x = graph(6, 2, 0, 0, 1, 0, 3, 3, 4);
        // 5 (none), then 1 (one), 0, 2 (one), 3 (two), 4; turned round
        due.is("order(2)", x.order(2), 0);
        orderIs("order(2)", x, 4, 3, 2, 0, 1, 5);
        // fewer joined ones come first, whatever their numbers: 0 has 1, 2 behind it, 1 with three
        ThinTables y = graph(7, 0, 1, 0, 2, 1, 3, 1, 4, 2, 5, 3, 6, 4, 6, 5, 6, 3, 4, 3, 5);
        due.is("order(2): fill", y.order(2), 3);
        orderIs("order(2): by how many", y, 6, 3, 4, 5, 1, 2, 0);
    }

    private static void orderByLeastFill() {
        // a ring of 5: any order fills 2; the least order is as they are
        ThinTables ring = graph(5, 0, 1, 1, 2, 2, 3, 3, 4, 4, 0);
        ring.change(0, 3);
        due.is("order(3): ring", ring.order(3), 2);
        orderIs("order(3): ring", ring, 0, 1, 2, 3, 4);
        // a star: 1 goes first, 0 as soon as it has one left
        ThinTables star = graph(4, 0, 1, 0, 2, 0, 3);
        due.is("order(3): star", star.order(3), 0);
        orderIs("order(3): star", star, 1, 2, 0, 3);
        // 0 between two heaps of four that are all joined: LEAST DEGREE takes it first and fills one
        ThinTables trap = graph(9, 0, 1, 0, 2, 1, 3, 1, 4, 1, 5, 3, 4, 3, 5, 4, 5, 2, 6, 2, 7, 2, 8,
                6, 7, 6, 8, 7, 8);
        due.is("order(1): trap", trap.order(1), 1);
        due.is("order(3): trap", trap.order(3), 0);
        orderIs("order(3): trap", trap, 3, 4, 5, 1, 0, 2, 6, 7, 8);
        ThinTables twelve = new ThinTables();
        twelve.size(12);
        for (int k = 0; k < 12; k++) {
            twelve.set(k, (k + 1) % 12, 1);
        }
        due.is("order(3): ring of 12", twelve.order(3), 9);
        orderIs("order(3): ring of 12", twelve, 0, 1, 2, 3, 4, 5, 6, 7, 8, 9, 10, 11);
    }

    private static void change() {
        ThinTables x = graph(4, 0, 1, 0, 2, 0, 3);
        due.is("change(0, 3)", x.change(0, 3), 0);
        orderIs("change(0, 3)", x, 3, 1, 2, 0);
        due.is("change(3, 1)", x.change(3, 1), 1);
        orderIs("change(3, 1): places, not NODES", x, 3, 0, 2, 1);
        due.is("change(2, 2)", x.change(2, 2), 1);
        orderIs("change(2, 2)", x, 3, 0, 2, 1);
        due.is("change(4, 0)", x.change(4, 0), OUTSIDE);
        due.is("change(0, 4)", x.change(0, 4), OUTSIDE);
        due.is("change(-1, 0)", x.change(-1, 0), OUTSIDE);
        due.is("change(0, -1)", x.change(0, -1), OUTSIDE);
        orderIs("change refused", x, 3, 0, 2, 1);
    }

    private static void node() {
        // the ring 0 1 2 3 with 4 on 3, in the order 2, 0, 4, 3, 1
        ThinTables x = graph(5, 0, 1, 1, 2, 2, 3, 3, 0, 3, 4);
        x.change(0, 2);
        x.change(1, 2);
        x.change(2, 4);
        int[][] dues = {{2, 2, 3, 1}, {0, 2, 3, 1}, {4, 1, 3, 1}, {3, 1, 1, 4}, {1, 0, NONE, 5}};
        for (int k = 0; k < 5; k++) {
            for (int what = 0; what < 4; what++) {
                due.is("node(" + k + ", " + what + ")", x.node(k, what), dues[k][what]);
            }
        }
        due.is("node: HEIGHT", x.count(7), 3);
        due.is("node(5, 0)", x.node(5, 0), OUTSIDE);
        due.is("node(-1, 0)", x.node(-1, 0), OUTSIDE);
        due.is("node(0, 4)", x.node(0, 4), OUTSIDE);
        due.is("node(0, -1)", x.node(0, -1), OUTSIDE);
    }

    private static void going() {
        ThinTables x = graph(4, 0, 1, 1, 2, 2, 3, 3, 0);
        int[] dues = {10, 12, 8, 0};
        for (int v = 0; v < 4; v++) {
            due.is("going(" + v + ")", x.going(v), dues[v]);
        }
        x.change(0, 3);
        due.is("going goes by NODES", x.going(0), 0);
        due.is("going(3) is first", x.going(3), 5);
        due.is("going(4)", x.going(4), OUTSIDE);
        due.is("going(-1)", x.going(-1), OUTSIDE);
    }

    private static void prime() {
        ThinTables x = new ThinTables();
        due.is("prime(2)", x.prime(2), 10007);
        due.is("prime(46337)", x.prime(46337), 2);
        for (int wrong : new int[] {1, 0, -7, 4, 9, 46336, 46335, 46349, 45796, 43681, 1001, LOWEST, HIGHEST}) {
            due.is("prime(" + wrong + ")", x.prime(wrong), OUTSIDE);
        }
        due.is("prime: as it was", x.prime(3), 46337);
        due.is("prime: count", x.count(8), 3);
    }

    private static void stop() {
        due.is("stop: at 0", table(row(0, 1), row(1, 0)).stop(), 0);
        due.is("stop: none", table(row(1, 1), row(1, 2)).stop(), NONE);
        due.is("stop: the last pivot", table(row(1, 1), row(1, 1)).stop(), 1);
        ThinTables x = table(row(0, 0, 1), row(0, 3, 0), row(1, 0, 5));
        x.change(0, 1);
        due.is("stop: a NODE, not a place", x.stop(), 0);
        x.change(1, 2);
        due.is("stop: another order", x.stop(), NONE);
        x.prime(3);
        due.is("stop: by rests", x.stop(), 1);
    }

    private static void factor() {
        ThinTables x = table(row(2, 1, 0), row(4, 5, 1), row(0, 6, 7));
        x.prime(11);
        int[][] left = {{1, 0, 0}, {2, 1, 0}, {0, 2, 1}};
        int[][] upper = {{2, 1, 0}, {0, 3, 1}, {0, 0, 5}};
        for (int i = 0; i < 3; i++) {
            for (int j = 0; j < 3; j++) {
                due.is("factor: LEFT", x.factor(i, j, 0), left[i][j]);
                due.is("factor: UPPER", x.factor(i, j, 1), upper[i][j]);
            }
        }
        for (int[] wrong : new int[][] {{3, 0, 0}, {-1, 0, 0}, {0, 3, 0}, {0, -1, 0}, {0, 0, 2}, {0, 0, -1}}) {
            due.is("factor: wrong", x.factor(wrong[0], wrong[1], wrong[2]), OUTSIDE);
        }
        ThinTables turned = table(row(0, 3), row(2, 1));
        due.is("factor: none", turned.factor(0, 0, 0), NOT);
        due.is("factor: OUTSIDE is first", turned.factor(0, 0, 2), OUTSIDE);
        turned.change(0, 1);
        turned.prime(7);
        due.is("factor by NODES: LEFT(0, 1)", turned.factor(0, 1, 0), 3);
        due.is("factor by NODES: LEFT(1, 0)", turned.factor(1, 0, 0), 0);
        due.is("factor by NODES: LEFT(0, 0)", turned.factor(0, 0, 0), 1);
        due.is("factor by NODES: UPPER(1, 0)", turned.factor(1, 0, 1), 2);
        due.is("factor by NODES: UPPER(0, 1)", turned.factor(0, 1, 1), 0);
        due.is("factor by NODES: UPPER(0, 0)", turned.factor(0, 0, 1), 1);
        due.is("factor by NODES: UPPER(1, 1)", turned.factor(1, 1, 1), 1);
    }

    private static void full() {
        due.is("full: none full", table(row(1, 0), row(0, 1)).full(), 0);
        due.is("full: both", table(row(2, 1, 0), row(4, 5, 1), row(0, 6, 7)).full(), 4);
        ThinTables arrow = table(row(1, 1, 1), row(1, 5, 0), row(1, 0, 7));
        due.is("full: filled", arrow.full(), 6);
        arrow.change(0, 2);
        due.is("full: another order", arrow.full(), 4);
        ThinTables shrunk = table(row(1, 1), row(7, 3));
        shrunk.prime(7);
        due.is("full: by rests", shrunk.full(), 1);
        due.is("full: no FACTORS", table(row(0, 1), row(1, 0)).full(), NOT);
        due.is("full: cells that fall out", table(row(1, 1, 1), row(1, 2, 1), row(1, 0, 5)).full(), 5);
    }

    private static void determinant() {
        due.is("determinant", table(row(1, 2), row(3, 4)).determinant(), 10005);
        due.is("determinant without FACTORS", table(row(0, 2), row(3, 0)).determinant(), 10001);
        due.is("determinant 0", table(row(1, 2), row(2, 4)).determinant(), 0);
        due.is("determinant of -99", table(row(-99)).determinant(), 9908);
        ThinTables x = table(row(5, 1), row(0, 5));
        x.prime(5);
        due.is("determinant 0 by rests", x.determinant(), 0);
        x.prime(2);
        due.is("determinant by 2", x.determinant(), 1);
        ThinTables three = table(row(0, 1, 0), row(0, 0, 1), row(1, 0, 0));
        due.is("determinant: two changes", three.determinant(), 1);
        three.change(0, 2);
        due.is("determinant: no matter the order", three.determinant(), 1);
    }

    private static void rank() {
        due.is("rank of noughts", new ThinTables().rank(), 0);
        due.is("rank", table(row(0, 1, 2), row(0, 2, 4), row(0, 0, 3)).rank(), 2);
        due.is("rank: late column", table(row(0, 0, 2), row(0, 0, 4), row(0, 0, 3)).rank(), 1);
        ThinTables x = table(row(1, 1), row(1, -1));
        due.is("rank: all", x.rank(), 2);
        x.prime(2);
        due.is("rank by 2", x.rank(), 1);
        due.is("rank: RANK is another", x.count(2), 2);
    }

    private static void solution() {
        ThinTables x = table(row(0, 2, 1), row(1, 0, 0), row(3, 1, 4));
        side(x, 5, -6, 7);
        // x0 = -6, 2 x1 + x2 = 5, x1 + 4 x2 = 25: x1 = -5/7, x2 = 45/7
        due.is("solution(0)", x.solution(0), 10001);
        due.is("solution(1), back", x.solution(1) * 7L % 10007, 10002);
        due.is("solution(2), back", x.solution(2) * 7L % 10007, 45);
        due.is("solution(3)", x.solution(3), OUTSIDE);
        due.is("solution(-1)", x.solution(-1), OUTSIDE);
        x.prime(7);
        due.is("solution: DETERMINANT 0 by rests", x.solution(0), NOT);
        due.is("solution: OUTSIDE is first", x.solution(3), OUTSIDE);
        x.prime(2);
        due.is("solution by 2", x.solution(1), 1);
        ThinTables zero = table(row(1, 1), row(1, 1));
        due.is("solution: DETERMINANT 0", zero.solution(0), NOT);
    }

    private static void inverse() {
        ThinTables x = table(row(0, 2), row(3, 4));
        x.prime(7);
        // the inverse of (0 2; 3 4) is (4 -2; -3 0) / -6, and -6 is 1
        int[][] dues = {{4, 5}, {4, 0}};
        for (int i = 0; i < 2; i++) {
            for (int j = 0; j < 2; j++) {
                due.is("inverse(" + i + ", " + j + ")", x.inverse(i, j), dues[i][j]);
            }
        }
        due.is("inverse(2, 0)", x.inverse(2, 0), OUTSIDE);
        due.is("inverse(0, 2)", x.inverse(0, 2), OUTSIDE);
        due.is("inverse(-1, 0)", x.inverse(-1, 0), OUTSIDE);
        due.is("inverse(0, -1)", x.inverse(0, -1), OUTSIDE);
        x.prime(3);
        due.is("inverse: DETERMINANT 0", x.inverse(0, 0), NOT);
        due.is("inverse: OUTSIDE is first", x.inverse(2, 0), OUTSIDE);
    }

    private static void changed() {
        ThinTables x = table(row(1, 2), row(3, 4));
        due.is("changed(0, 1, -99)", x.changed(0, 1, -99), 301);
        due.is("changed(1, 0, 2)", x.changed(1, 0, 2), 0);
        due.is("changed(1, 1, 4): as it is", x.changed(1, 1, 4), 10005);
        due.is("changed: nothing is", x.determinant(), 10005);
        due.is("changed: no cell is", x.cell(0, 1), 2);
        due.is("changed(2, 0, 0)", x.changed(2, 0, 0), OUTSIDE);
        due.is("changed(0, 2, 0)", x.changed(0, 2, 0), OUTSIDE);
        due.is("changed(-1, 0, 0)", x.changed(-1, 0, 0), OUTSIDE);
        due.is("changed(0, -1, 0)", x.changed(0, -1, 0), OUTSIDE);
        due.is("changed(0, 0, 100)", x.changed(0, 0, 100), OUTSIDE);
        due.is("changed(0, 0, -100)", x.changed(0, 0, -100), OUTSIDE);
        ThinTables zero = table(row(1, 1), row(1, 1));
        due.is("changed: from DETERMINANT 0", zero.changed(0, 1, 0), 1);
    }

    private static void exact() {
        ThinTables x = table(row(2, 0, 0), row(0, -4, 0), row(0, 0, 6));
        side(x, 3, 6, -4);
        long[][] dues = {{3, 2}, {-3, 2}, {-2, 3}};
        for (int i = 0; i < 3; i++) {
            due.is("exact: upper", x.exact(i, 0), dues[i][0]);
            due.is("exact: lower", x.exact(i, 1), dues[i][1]);
            due.is("exact: determinant", x.exact(i, 2), -48);
        }
        x.side(0, 0);
        due.is("exact: 0 above", x.exact(0, 0), 0);
        due.is("exact: 1 below", x.exact(0, 1), 1);
        due.is("exact(3, 0)", x.exact(3, 0), OUTSIDE);
        due.is("exact(-1, 1)", x.exact(-1, 1), OUTSIDE);
        due.is("exact(0, 3)", x.exact(0, 3), OUTSIDE);
        due.is("exact(0, -1)", x.exact(0, -1), OUTSIDE);
        due.is("exact: i is not looked at", x.exact(LOWEST, 2), -48);
        ThinTables zero = table(row(1, 1), row(1, 1));
        due.is("exact: determinant 0", zero.exact(0, 2), 0);
        due.is("exact: NOT upper", zero.exact(0, 0), NOT);
        due.is("exact: NOT lower", zero.exact(0, 1), NOT);
        due.is("exact: OUTSIDE is first", zero.exact(2, 0), OUTSIDE);
        ThinTables six = graph(6);
        due.is("exact: six rows", six.exact(0, 2), NOT);
        due.is("exact: six rows, i not looked at", six.exact(9, 2), NOT);
        due.is("exact: six rows, upper", six.exact(0, 0), NOT);
        due.is("exact: six rows, OUTSIDE is first", six.exact(6, 0), OUTSIDE);
        ThinTables five = table(row(99, 99, 99, 99, 99), row(99, -99, 99, -99, 99), row(99, 99, -99, -99, 99),
                row(99, -99, -99, 99, 99), row(99, 99, 99, 99, -99));
        due.is("exact: great", five.exact(0, 2), -32 * 9509900499L);
        ThinTables like = table(row(-99, 1, 0), row(0, 17, 1), row(1, 0, 0));
        due.is("exact: a small one", like.exact(0, 2), 1);
    }

    private static void refusalsChangeNothing() {
        ThinTables x = table(row(1, 2, 0), row(0, 1, 3), row(4, 0, 1));
        side(x, 1, 2, 3);
        x.change(0, 2);
        x.size(21);
        x.size(0);
        x.set(0, 3, 1);
        x.set(0, 0, 100);
        x.side(0, 100);
        x.order(4);
        x.order(-1);
        x.change(0, 3);
        x.prime(10);
        x.changed(0, 0, 7);
        due.is("refused: rows", x.count(0), 3);
        due.is("refused: cell", x.cell(0, 0), 1);
        due.is("refused: side", x.side(0, 1), 1);
        due.is("refused: P", x.count(8), 10007);
        orderIs("refused: order", x, 2, 1, 0);
    }

    private static void objectsShareNothing() {
        ThinTables x = table(row(1, 2), row(3, 4));
        ThinTables y = table(row(5, 0), row(0, 6));
        y.prime(7);
        due.is("two objects: determinant", x.determinant(), 10005);
        due.is("two objects: determinant", y.determinant(), 2);
        due.is("two objects: cell", x.cell(0, 0), 1);
    }
}
