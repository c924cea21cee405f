/** The document's beginning, the terms' beginning, THE TABLE, promises 1 to 6: sentence by sentence. */
final class EdgesOfTable {
    private static final int NONE = -1, OUTSIDE = -100001, NOT = -100002;
    private static final int LOWEST = Integer.MIN_VALUE, HIGHEST = Integer.MAX_VALUE;
    private static final int CALLS = 512;
    private final Sentences s;

    EdgesOfTable(Sentences sentences) {
        s = sentences;
    }

    void run() {
        lastCall();
        numbersFromNought();
        setsByBits();
        constants();
        firstRefusal();
        refusedChangesNothing();
        askingChangesNothing();
        bounds();
        places();
        newObject();
        size();
        set();
        cell();
        side();
        countLeastAndMost();
        countRefusals();
    }

    private void lastCall() {
        s.of("What it is", "An object is used for at most 512 calls after it has been made; "
                + "what later calls answer is free.");
        ThinTables x = Made.sized(20);
        for (int call = 2; call < CALLS; call++) {
            x.set(call % 20, call % 20, 1 + call % 98);
        }
        s.is("the 512th call", x.cell(11, 11), 1 + 511 % 98);
        ThinTables y = Made.sized(2);
        for (int call = 2; call < CALLS - 1; call++) {
            y.change(0, 1);
        }
        s.is("the 511th call", y.node(0, 0), 1);
        s.is("the 512th call", y.node(1, 0), 0);
    }

    private void numbersFromNought() {
        s.of("Terms", "Words in capitals are told where they come first. All numbers are whole; "
                + "what has a number has it from 0 on.");
        ThinTables x = Made.diagonal(20, 7);
        s.is("the first row and column", x.cell(0, 0), 7);
        s.is("the last row and column", x.cell(19, 19), 7);
        s.is("row n", x.cell(20, 0), OUTSIDE);
        s.is("the first BLOCK", x.rows(0), 1);
        s.is("the last BLOCK", x.rows(19), 1 << 19);
        s.is("BLOCK n", x.rows(20), 0);
        s.is("the first place", x.node(0, 0), 0);
        s.is("the last place", x.node(19, 0), 19);
        s.is("place n", x.node(20, 0), OUTSIDE);
        s.is("the first NODE", x.joined(0), 0);
        s.is("NODE n", x.joined(20), OUTSIDE);
    }

    private void setsByBits() {
        s.of("Terms", "A SET of rows (columns, NODES) is a whole number, bit k for k.");
        ThinTables x = Made.sized(20);
        s.is("no rows", x.columns(0), 0);
        for (int k = 0; k < 20; k++) {
            x.set(k, 19 - k, 1);
        }
        for (int k = 0; k < 20; k++) {
            s.is("row " + k + " as a SET, its column as a SET", x.columns(1 << k), 1 << 19 - k);
            s.is("NODE " + k, x.joined(k), 1 << 19 - k);
            s.is("going " + k, x.going(k), k < 10 ? 1 << 19 - k : 0);
            s.is("BLOCK " + k, x.rows(k), 1 << k);
        }
        s.is("all rows", x.columns((1 << 20) - 1), (1 << 20) - 1);
        x.set(19, 0, 0);
        s.is("row 19 as THE HEAP", x.heap(), 1 << 19);
    }

    private void constants() {
        s.of("Terms", "NONE is -1.");
        s.is("NONE", ThinTables.NONE, -1);
        s.is("OUTSIDE", ThinTables.OUTSIDE, -100001);
        s.is("NOT", ThinTables.NOT, -100002);
    }

    private void firstRefusal() {
        s.of("Terms", "REFUSALS, of several the first in this order: OUTSIDE (a number out of its bounds), "
                + "NOT (not now, as told).");
        ThinTables x = Made.sized(13);
        s.is("block, RANK below n", x.block(12), NOT);
        s.is("block, no row either", x.block(13), OUTSIDE);
        s.is("order 3, n above 12", x.order(3), NOT);
        s.is("order, no kind either", x.order(4), OUTSIDE);
        s.is("factor, no FACTORS", x.factor(12, 12, 1), NOT);
        s.is("factor, no row either", x.factor(13, 12, 1), OUTSIDE);
        s.is("factor, no column either", x.factor(12, 13, 1), OUTSIDE);
        s.is("factor, no what either", x.factor(12, 12, 2), OUTSIDE);
        s.is("solution, DETERMINANT 0", x.solution(12), NOT);
        s.is("solution, no value either", x.solution(13), OUTSIDE);
        s.is("inverse, DETERMINANT 0", x.inverse(12, 12), NOT);
        s.is("inverse, no row either", x.inverse(-1, 12), OUTSIDE);
        s.is("inverse, no column either", x.inverse(12, -1), OUTSIDE);
        s.is("exact, n above 5", x.exact(12, 0), NOT);
        s.is("exact, no value either", x.exact(13, 1), OUTSIDE);
        s.is("exact, no what either", x.exact(0, 3), OUTSIDE);
    }

    /** 13 rows whose RANK and DETERMINANT are less than all, so that each call that can be refused is. */
    private static ThinTables thirteen() {
        ThinTables x = Made.sized(13);
        for (int k = 0; k < 12; k++) {
            x.set(k, 12 - k, k + 1);
            x.side(k, -k);
        }
        x.prime(7);
        x.change(0, 12);
        x.change(3, 5);
        return x;
    }

    private void refusedChangesNothing() {
        s.of("Terms", "What is refused changes nothing.");
        String before = State.of(thirteen());
        refused(before, OUTSIDE, "size", x -> x.size(0), x -> x.size(21), x -> x.size(LOWEST), x -> x.size(HIGHEST));
        refused(before, OUTSIDE, "set", x -> x.set(13, 0, 1), x -> x.set(0, 13, 1), x -> x.set(-1, 0, 1),
                x -> x.set(0, -1, 1), x -> x.set(0, 12, 100), x -> x.set(0, 12, -100));
        refused(before, OUTSIDE, "side", x -> x.side(13, 1), x -> x.side(-1, 1), x -> x.side(1, 100),
                x -> x.side(1, -100));
        refused(before, OUTSIDE, "order", x -> x.order(-1), x -> x.order(4));
        refused(before, NOT, "order", x -> x.order(3));
        refused(before, OUTSIDE, "change", x -> x.change(0, 13), x -> x.change(13, 0), x -> x.change(-1, 0),
                x -> x.change(0, -1));
        refused(before, OUTSIDE, "prime", x -> x.prime(1), x -> x.prime(9), x -> x.prime(46349), x -> x.prime(-7));
        refused(before, OUTSIDE, "changed", x -> x.changed(13, 0, 1), x -> x.changed(0, 0, 100));
        refused(before, NOT, "asked", x -> x.count(3), x -> x.block(0), x -> x.rows(0), x -> x.factor(0, 0, 0),
                x -> x.full(), x -> x.solution(0), x -> x.inverse(0, 0), x -> (int) x.exact(0, 2));
        refused(before, OUTSIDE, "asked", x -> x.count(10), x -> x.columns(1 << 13), x -> x.node(13, 0),
                x -> x.going(13), x -> x.joined(13), x -> x.matched(13), x -> x.cell(13, 0));
    }

    private void refused(String before, int refusal, String what, Call... calls) {
        for (int k = 0; k < calls.length; k++) {
            ThinTables x = thirteen();
            s.is(what + " " + k + " is refused", calls[k].answer(x), refusal);
            s.holds(what + " " + k + " leaves all as it was", State.of(x).equals(before));
        }
    }

    private void askingChangesNothing() {
        s.of("Promise 25", "What DETERMINANT would be, if CELL (i, j) were v.");
        Call[] calls = {x -> x.changed(1, 2, 5), x -> x.determinant(), x -> x.rank(), x -> x.stop(), x -> x.full(),
                x -> x.factor(2, 0, 0), x -> x.solution(1), x -> x.inverse(1, 0), x -> (int) x.exact(1, 0),
                x -> x.heap(), x -> x.block(1), x -> x.going(1), x -> x.node(1, 3), x -> x.count(7)};
        for (int k = 0; k < calls.length; k++) {
            ThinTables x = four();
            calls[k].answer(x);
            s.holds("asked " + k + ", all stays as it was", State.of(x).equals(State.of(four())));
        }
    }

    private static ThinTables four() {
        ThinTables x = Made.table(Made.row(2, 0, 1, 0), Made.row(0, 3, 0, 1), Made.row(1, 0, 5, 0),
                Made.row(0, 1, 0, 7));
        Made.side(x, 1, -2, 3, -4);
        x.prime(101);
        x.change(1, 3);
        return x;
    }

    private void bounds() {
        s.of("Terms 1", "THE TABLE has n rows and columns (1 .. 20; 4 at first); CELLS (i, j) with values "
                + "(-99 .. 99; 0 at first).");
        ThinTables x = new ThinTables();
        s.is("rows at first", x.count(0), 4);
        s.is("a cell at first", x.cell(3, 3), 0);
        s.is("least n", x.size(1), 4);
        s.is("greatest n", x.size(20), 1);
        s.is("n too small", x.size(0), OUTSIDE);
        s.is("n too large", x.size(21), OUTSIDE);
        s.is("least value", x.set(19, 19, -99), 0);
        s.is("greatest value", x.set(19, 19, 99), -99);
        s.is("value too small", x.set(19, 19, -100), OUTSIDE);
        s.is("value too large", x.set(19, 19, 100), OUTSIDE);
        s.is("the value stays", x.cell(19, 19), 99);
        s.of("Terms 1", "THE SIDE is a row of n values b (-99 .. 99; 0 at first).");
        s.is("least b", x.side(19, -99), 0);
        s.is("greatest b", x.side(19, 99), -99);
        s.is("b too small", x.side(19, -100), OUTSIDE);
        s.is("b too large", x.side(19, 100), OUTSIDE);
        s.is("b stays", x.side(19, 0), 99);
        s.is("no value n", x.side(20, 0), OUTSIDE);
    }

    private void places() {
        s.of("Terms 1", "A PLACE is a CELL that is not 0.");
        for (int v : new int[] {-99, -7, -1, 1, 7, 99}) {
            ThinTables x = Made.sized(1);
            // a value whose rest is 0 is a PLACE, too: it is the CELL that is not 0
            x.prime(7);
            x.set(0, 0, v);
            s.is("PLACES with " + v, x.count(1), 1);
            s.is("RANK with " + v, x.count(2), 1);
            s.is("matched with " + v, x.matched(0), 0);
            s.is("columns with " + v, x.columns(1), 1);
            x.set(0, 0, 0);
            s.is("PLACES with 0", x.count(1), 0);
            s.is("matched with 0", x.matched(0), NONE);
            s.is("columns with 0", x.columns(1), 0);
        }
    }

    private void newObject() {
        s.of("Promise 1", "4 rows and columns, all 0; all as at first.");
        ThinTables x = new ThinTables();
        s.holds("all as at first", State.of(x).equals(
                "rows 4, P 10007, order 0 1 2 3, side 0 0 0 0, cells 0 0 0 0 0 0 0 0 0 0 0 0 0 0 0 0"));
        int[] counts = {4, 0, 0, NOT, 0, 0, 0, 1, 10007, 4};
        for (int what = 0; what < counts.length; what++) {
            s.is("count(" + what + ")", x.count(what), counts[what]);
        }
        s.is("heap", x.heap(), 1);
        s.is("stop", x.stop(), 0);
        s.is("determinant", x.determinant(), 0);
        s.is("rank", x.rank(), 0);
        s.is("exact determinant", x.exact(0, 2), 0);
        ThinTables other = new ThinTables();
        x.set(0, 0, 5);
        s.is("another new one has its own cells", other.cell(0, 0), 0);
    }

    private void size() {
        s.of("Promise 2", "n rows and columns, all 0, THE SIDE too; THE ORDER as they are: how many there were.");
        ThinTables x = Made.dense(5, 3);
        Made.side(x, 1, 2, 3, 4, 5);
        x.prime(11);
        x.change(0, 4);
        s.is("the same n", x.size(5), 5);
        s.holds("all new but P", State.of(x).equals("rows 5, P 11, order 0 1 2 3 4, side 0 0 0 0 0, cells"
                + " 0".repeat(25)));
        Made.side(x, 9, 9, 9, 9, 9);
        x.set(4, 4, 9);
        x.set(4, 3, 9);
        x.change(1, 4);
        s.is("down to 1", x.size(1), 5);
        s.is("what was there is out", x.cell(4, 4), OUTSIDE);
        s.is("up to 20", x.size(20), 1);
        s.is("no cell comes back", x.cell(4, 4), 0);
        s.is("no PLACE comes back", x.count(1), 0);
        s.is("no JOINED pair comes back", x.count(4), 0);
        s.is("no value of THE SIDE comes back", x.side(4, 0), 0);
        s.is("THE ORDER is as they are", x.node(1, 0), 1);
        s.is("up to its last", x.node(19, 0), 19);
        s.is("P stays", x.count(8), 11);
        s.of("Promise 2", "OUTSIDE.");
        s.each("size", OUTSIDE, x::size, 0, 21, -1, -20, LOWEST, HIGHEST);
        s.is("as many as before", x.count(0), 20);
    }

    private void set() {
        s.of("Promise 3", "A CELL becomes v: what it was.");
        ThinTables x = new ThinTables();
        s.is("0 at first", x.set(0, 3, -99), 0);
        s.is("then -99", x.set(0, 3, 99), -99);
        s.is("the same again", x.set(0, 3, 99), 99);
        s.is("to 0", x.set(0, 3, 0), 99);
        s.is("from 0", x.set(0, 3, 1), 0);
        s.is("the cell across is another", x.cell(3, 0), 0);
        s.of("Promise 3", "OUTSIDE.");
        s.each("row", OUTSIDE, i -> x.set(i, 0, 1), -1, 4, 20, 32, LOWEST, HIGHEST);
        s.each("column", OUTSIDE, j -> x.set(0, j, 1), -1, 4, 20, 32, LOWEST, HIGHEST);
        s.each("value", OUTSIDE, v -> x.set(0, 3, v), -100, 100, LOWEST, HIGHEST);
        s.is("the cell stays", x.cell(0, 3), 1);
        s.is("no PLACE more", x.count(1), 1);
    }

    private void cell() {
        s.of("Promise 4", "A CELL.");
        ThinTables x = Made.sized(20);
        x.set(0, 19, -99);
        x.set(19, 0, 99);
        s.is("the last of the first row", x.cell(0, 19), -99);
        s.is("the first of the last row", x.cell(19, 0), 99);
        s.is("another", x.cell(19, 19), 0);
        s.of("Promise 4", "OUTSIDE.");
        s.each("row", OUTSIDE, i -> x.cell(i, 0), -1, 20, 32, LOWEST, HIGHEST);
        s.each("column", OUTSIDE, j -> x.cell(0, j), -1, 20, 32, LOWEST, HIGHEST);
        x.size(1);
        s.is("n is 1", x.cell(0, 0), 0);
        s.is("n is 1: row 1", x.cell(1, 0), OUTSIDE);
        s.is("n is 1: column 1", x.cell(0, 1), OUTSIDE);
    }

    private void side() {
        s.of("Promise 5", "Value i of THE SIDE becomes v: what it was.");
        ThinTables x = Made.sized(20);
        s.is("the first", x.side(0, 99), 0);
        s.is("the last", x.side(19, -99), 0);
        s.is("the first was", x.side(0, 1), 99);
        s.is("the last was", x.side(19, 1), -99);
        s.is("the one between is 0", x.side(1, 0), 0);
        s.is("THE SIDE has no PLACE", x.count(1), 0);
        s.of("Promise 5", "OUTSIDE.");
        s.each("number", OUTSIDE, i -> x.side(i, 1), -1, 20, 32, LOWEST, HIGHEST);
        s.each("value", OUTSIDE, v -> x.side(0, v), -100, 100, LOWEST, HIGHEST);
        s.is("it stays", x.side(0, 0), 1);
    }

    private void countLeastAndMost() {
        ThinTables none = Made.sized(20);
        ThinTables all = Made.dense(20, 1);
        ThinTables one = Made.sized(1);
        count("How many: 0 rows", 0, one, 1, none, 20);
        s.is("all joined", all.count(0), 20);
        count("1 PLACES", 1, none, 0, all, 400);
        count("2 RANK", 2, none, 0, all, 20);
        count("3 BLOCKS", 3, all, 1, Made.diagonal(20, -99), 20);
        count("4 JOINED pairs", 4, Made.diagonal(20, 1), 0, all, 190);
        // the star's middle goes first: all others are joined to one another, and that is the most there can be
        count("5 FILL", 5, all, 0, Made.star(20, 0), 171);
        count("6 WORK", 6, none, 0, all, 2470);
        count("7 HEIGHT", 7, none, 1, all, 20);
        count("9 NODES that have no PARENT", 9, all, 1, none, 20);
        one.prime(2);
        none.prime(46337);
        count("8 P", 8, one, 2, none, 46337);
        one.set(0, 0, 1);
        int[] counts = {1, 1, 1, 1, 0, 0, 0, 1, 2, 1};
        for (int what = 0; what < counts.length; what++) {
            s.is("n is 1: count(" + what + ")", one.count(what), counts[what]);
        }
    }

    private void count(String sentence, int what, ThinTables least, int fewest, ThinTables greatest, int most) {
        s.of("Promise 6", sentence);
        s.is("least", least.count(what), fewest);
        s.is("most", greatest.count(what), most);
    }

    private void countRefusals() {
        s.of("Promise 6", "(NOT: RANK is below n)");
        ThinTables x = Made.diagonal(20, 1);
        x.set(19, 19, 0);
        s.is("RANK is n - 1", x.count(3), NOT);
        s.is("RANK is told all the same", x.count(2), 19);
        x.set(19, 19, 1);
        s.is("RANK is n again", x.count(3), 20);
        s.is("no PLACES", new ThinTables().count(3), NOT);
        s.of("Promise 6", "OUTSIDE.");
        s.each("count", OUTSIDE, x::count, -1, 10, 32, -100001, LOWEST, HIGHEST);
    }

    /** One call on an object. */
    private interface Call {
        int answer(ThinTables x);
    }
}
