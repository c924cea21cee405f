/** THE GRAPH, ORDERS, what ELIMINATING does, promises 12 to 16: sentence by sentence. */
final class EdgesOfGraph {
    private static final int NONE = -1, OUTSIDE = -100001, NOT = -100002;
    private static final int LOWEST = Integer.MIN_VALUE, HIGHEST = Integer.MAX_VALUE;
    private static final int ALL = (1 << 20) - 1;
    private final Sentences s;

    EdgesOfGraph(Sentences sentences) {
        s = sentences;
    }

    void run() {
        nodes();
        joinedByPlaces();
        orderAtFirst();
        eliminate();
        fill();
        countOfNode();
        parent();
        workAndHeight();
        leastDegree();
        breadthStarts();
        breadthGoesOn();
        leastFill();
        leastFillOfSeveral();
        joined();
        order();
        change();
        node();
        going();
    }

    private void nodes() {
        s.of("Terms 3", "THE GRAPH: NODES 0 to n - 1;");
        ThinTables x = Made.graph(20, 0, 19);
        s.is("the first", x.joined(0), 1 << 19);
        s.is("the last", x.joined(19), 1);
        s.is("no NODE n", x.joined(20), OUTSIDE);
    }

    private void joinedByPlaces() {
        s.of("Terms 3", "i and j (unlike) are JOINED, if (i, j) or (j, i) is a PLACE.");
        ThinTables x = Made.graph(4, 2, 2);
        s.is("(2, 2) joins nothing", x.joined(2), 0);
        s.is("no pair", x.count(4), 0);
        x.set(0, 1, -99);
        s.is("by (0, 1): 0", x.joined(0), 2);
        s.is("by (0, 1): 1", x.joined(1), 1);
        x.set(1, 0, 1);
        s.is("by both it is one pair", x.count(4), 1);
        x.set(0, 1, 0);
        s.is("by (1, 0) alone: 0", x.joined(0), 2);
        s.is("by (1, 0) alone: 1", x.joined(1), 1);
        x.set(1, 0, 0);
        s.is("by none", x.joined(0), 0);
    }

    private void orderAtFirst() {
        s.of("Terms 3", "THE ORDER is a row of all NODES: 0 as they are (at first).");
        s.order("a new object", new ThinTables(), 0, 1, 2, 3);
        ThinTables x = Made.star(4, 0);
        s.order("cells leave it", x, 0, 1, 2, 3);
        x.order(1);
        s.order("another", x, 1, 2, 0, 3);
        x.order(0);
        s.order("as they are again", x, 0, 1, 2, 3);
        ThinTables all = Made.dense(20, 1);
        for (int kind = 0; kind < 3; kind++) {
            all.order(kind);
            int seen = 0;
            for (int k = 0; k < 20; k++) {
                seen |= 1 << all.node(k, 0);
            }
            s.is("kind " + kind + " has all NODES", seen, ALL);
        }
    }

    private void eliminate() {
        s.of("Terms 3", "To ELIMINATE them: one after the other in THE ORDER goes, and all that are JOINED to it "
                + "and not yet gone are JOINED to one another;");
        ThinTables x = Made.graph(4, 0, 1, 1, 2, 2, 3);
        x.change(0, 1);
        // 1 goes first: 0 and 2 are joined; then 0, joined to 2 by that; then 2; then 3
        s.is("1 as it goes", x.going(1), 5);
        s.is("0 as it goes", x.going(0), 4);
        s.is("2 as it goes, 0 and 1 being gone", x.going(2), 8);
        s.is("3 as it goes", x.going(3), 0);
        s.is("THE GRAPH itself stays", x.joined(0), 2);
        s.is("and its pairs", x.count(4), 3);
        // a pair that elimination has joined joins further ones: the ring's far ends
        ThinTables ring = Made.ring(5);
        s.is("0", ring.going(0), 18);
        s.is("1, joined to 4 by 0", ring.going(1), 20);
        s.is("2, joined to 4 by 1", ring.going(2), 24);
    }

    private void fill() {
        s.of("Terms 3", "FILL is how many pairs are JOINED by that that were not.");
        s.is("nothing is joined", Made.sized(20).count(5), 0);
        s.is("all are joined already", Made.dense(20, 1).count(5), 0);
        s.is("n is 1", Made.diagonal(1, 1).count(5), 0);
        s.is("the star's middle first", Made.star(4, 0).count(5), 3);
        s.is("the star's middle last", Made.star(4, 3).count(5), 0);
        // 0, 1, 2 are each joined to 3 and 4: the pair (3, 4) is new once
        s.is("a pair counts once", Made.graph(5, 0, 3, 0, 4, 1, 3, 1, 4, 2, 3, 2, 4).count(5), 1);
        s.is("a ring of n has n - 3", Made.ring(20).count(5), 17);
    }

    private void countOfNode() {
        s.of("Terms 3", "COUNT of a NODE: how many not yet gone ones it is JOINED to as it goes.");
        ThinTables first = Made.star(20, 0);
        s.is("the middle first: all others", first.node(0, 1), 19);
        s.is("the next: those that are left", first.node(1, 1), 18);
        s.is("the last one: none", first.node(19, 1), 0);
        ThinTables last = Made.star(20, 19);
        s.is("the middle last: a leaf", last.node(0, 1), 1);
        s.is("the middle last: all are gone", last.node(19, 1), 0);
        s.is("a pair joined on the way counts", Made.ring(4).node(1, 1), 2);
        s.is("alone", Made.diagonal(1, 1).node(0, 1), 0);
    }

    private void parent() {
        s.of("Terms 3", "PARENT: the first of these in THE ORDER; NONE.");
        ThinTables x = Made.star(4, 0);
        s.is("the first behind it", x.node(0, 2), 1);
        x.change(1, 3);
        s.is("the first in THE ORDER, not the least", x.node(0, 2), 3);
        x.change(0, 3);
        // THE ORDER is 1, 3, 2, 0 now
        s.is("not the next in THE ORDER, if that is not joined", x.node(0, 2), 0);
        s.is("the last has none", x.node(3, 2), NONE);
        ThinTables apart = Made.graph(4, 0, 1, 2, 3);
        s.is("the last of the first two has none", apart.node(1, 2), NONE);
        s.is("the first of the other two", apart.node(2, 2), 3);
        s.is("alone", Made.sized(1).node(0, 2), NONE);
        // 0 and 2 are not joined in THE GRAPH, but as 1 has gone
        ThinTables path = Made.graph(3, 1, 0, 1, 2);
        path.change(0, 1);
        s.is("by a pair joined on the way", path.node(1, 2), 2);
    }

    private void workAndHeight() {
        s.of("Terms 3", "WORK: the sum of COUNTS times COUNTS.");
        s.is("none joined", Made.sized(20).count(6), 0);
        s.is("the star's middle first: 9 + 4 + 1 + 0", Made.star(4, 0).count(6), 14);
        s.is("the star's middle last: 1 + 1 + 1 + 0", Made.star(4, 3).count(6), 3);
        s.is("all joined, 20 NODES", Made.dense(20, 1).count(6), 19 * 20 * 39 / 6);
        s.of("Terms 3", "HEIGHT: the most NODES on a way along PARENTS.");
        s.is("none joined", Made.sized(20).count(7), 1);
        s.is("n is 1", Made.sized(1).count(7), 1);
        s.is("the star's middle last", Made.star(20, 19).count(7), 2);
        s.is("the star's middle first", Made.star(20, 0).count(7), 20);
        ThinTables x = Made.star(20, 0);
        s.is("at first", x.count(7), 20);
        x.change(0, 19);
        s.is("less in another ORDER", x.count(7), 2);
        s.is("two ways, one longer", Made.graph(6, 0, 1, 2, 3, 3, 4, 4, 5).count(7), 4);
    }

    private void leastDegree() {
        s.of("Terms 3", "ORDERS that are made: 1 LEAST DEGREE: always the one that is JOINED to the fewest not yet "
                + "gone ones goes next, of like ones the least.");
        made("none joined", Made.sized(4), 1, 0, 0, 1, 2, 3);
        made("all joined", Made.dense(4, 1), 1, 0, 0, 1, 2, 3);
        made("n is 1", Made.sized(1), 1, 0, 0);
        // when 1 and 2 are gone, 0 has one left as 3 has, and is the lesser
        made("star", Made.star(4, 0), 1, 0, 1, 2, 0, 3);
        made("ring", Made.ring(4), 1, 1, 0, 1, 2, 3);
        made("one alone goes first", Made.graph(4, 0, 1, 1, 2), 1, 0, 3, 0, 1, 2);
        // 0 joined to 1, 2, 3; 4 to 1, 2, 3: 1 goes and joins 0 and 4, so that these have as many as at first
        made("pairs joined on the way count", Made.graph(5, 0, 1, 0, 2, 0, 3, 4, 1, 4, 2, 4, 3), 1, 1, 1, 2, 0, 3, 4);
        ThinTables x = Made.star(4, 0);
        x.change(0, 3);
        made("THE ORDER before does not matter", x, 1, 0, 1, 2, 0, 3);
    }

    private void made(String what, ThinTables x, int kind, int fill, int... nodes) {
        s.is(what + ": FILL", x.order(kind), fill);
        s.order(what, x, nodes);
    }

    private void breadthStarts() {
        s.of("Terms 3", "2 BREADTH: from the NODE that is JOINED to fewest (of like ones the least) on: a row;");
        made("0 has two, 1 and 2 one: from 1", Made.graph(3, 0, 1, 0, 2), 2, 0, 2, 0, 1);
        made("all have two: from 0", Made.dense(3, 1), 2, 0, 2, 1, 0);
        made("n is 1", Made.sized(1), 2, 0, 0);
        s.of("Terms 3", "when that ends, from the next such NODE that is not in it;");
        made("none joined: each one starts", Made.sized(4), 2, 0, 3, 2, 1, 0);
        // 3 and 4 have one each, 0, 1, 2 two each
        made("the pair, then the three", Made.graph(5, 0, 1, 1, 2, 2, 0, 3, 4), 2, 0, 2, 1, 0, 4, 3);
        made("2 has none", Made.graph(4, 0, 1, 1, 3), 2, 0, 3, 1, 0, 2);
        s.of("Terms 3", "then it is turned round.");
        made("two", Made.graph(2, 1, 0), 2, 0, 1, 0);
        made("a path from its end", Made.graph(4, 0, 1, 1, 2, 2, 3), 2, 0, 3, 2, 1, 0);
    }

    private void breadthGoesOn() {
        s.of("Terms 3", "again and again the first in it whose JOINED ones are not all in it puts these behind, "
                + "by how many they are JOINED to, of like ones by numbers;");
        made("of like ones by numbers", Made.star(5, 3), 2, 0, 4, 2, 1, 3, 0);
        // from 0 to 1; 1 puts 3 (one) ahead of 2 (three); 2 puts 4 and 5
        made("by how many", Made.graph(6, 0, 1, 1, 2, 1, 3, 2, 4, 2, 5), 2, 0, 5, 4, 2, 3, 1, 0);
        // from 0 to 1 and 2; 1 puts 4 before 2 puts 3, as 1 is the first in the row
        made("the first in it, before the next one", Made.graph(5, 0, 1, 0, 2, 1, 4, 2, 3, 4, 3), 2, 2, 3, 4, 2, 1, 0);
        // 2 puts 5 and 6: 5 is joined to 2, 3, 4, which are all in the row, 6 to 2 and to 7, which is not
        made("those in it count, too", Made.graph(8, 0, 1, 1, 2, 1, 3, 1, 4, 3, 4, 2, 5, 3, 5, 4, 5, 2, 6, 6, 7), 2, 2,
                7, 5, 6, 4, 3, 2, 1, 0);
    }

    private void leastFill() {
        s.of("Terms 3", "3 LEAST FILL (n at most 12): the ORDER with the least FILL;");
        made("n is 1", Made.sized(1), 3, 0, 0);
        made("none joined, 12", Made.sized(12), 3, 0, 0, 1, 2, 3, 4, 5, 6, 7, 8, 9, 10, 11);
        made("all joined, 12", Made.dense(12, 1), 3, 0, 0, 1, 2, 3, 4, 5, 6, 7, 8, 9, 10, 11);
        made("ring of 12", Made.ring(12), 3, 9, 0, 1, 2, 3, 4, 5, 6, 7, 8, 9, 10, 11);
        s.is("13", Made.sized(13).order(3), NOT);
        s.is("20", Made.sized(20).order(3), NOT);
        // 0 joins two heaps of four: LEAST DEGREE lets it go first, which joins 1 and 2
        ThinTables trap = Made.graph(9, 0, 1, 0, 2, 1, 3, 1, 4, 1, 5, 3, 4, 3, 5, 4, 5, 2, 6, 2, 7, 2, 8,
                6, 7, 6, 8, 7, 8);
        s.is("LEAST DEGREE has more", trap.order(1), 1);
        s.is("least of all", trap.order(3), 0);
    }

    private void leastFillOfSeveral() {
        s.of("Terms 3", "of several that whose first NODE that differs is the lesser.");
        made("the star's middle as soon as it may", Made.star(12, 0), 3, 0, 1, 2, 3, 4, 5, 6, 7, 8, 9, 10, 0, 11);
        // even ones are joined to odd ones: five even ones go, then the odd ones may
        ThinTables x = Made.sized(12);
        for (int even = 0; even < 12; even += 2) {
            for (int odd = 1; odd < 12; odd += 2) {
                x.set(even, odd, 1);
            }
        }
        made("two halves", x, 3, 15, 0, 2, 4, 6, 8, 1, 3, 5, 7, 9, 10, 11);
        made("a path: from its end or not, no FILL if the middle waits", Made.graph(3, 1, 0, 0, 2), 3, 0, 1, 0, 2);
    }

    private void joined() {
        s.of("Promise 12", "NODES to which a NODE is JOINED, as a SET.");
        s.is("none", Made.diagonal(20, 1).joined(19), 0);
        ThinTables all = Made.dense(20, 1);
        s.is("all but itself: the first", all.joined(0), ALL - 1);
        s.is("all but itself: the last", all.joined(19), ALL >> 1);
        s.is("n is 1", Made.diagonal(1, 1).joined(0), 0);
        s.of("Promise 12", "OUTSIDE.");
        s.each("NODE", OUTSIDE, all::joined, -1, 20, 32, LOWEST, HIGHEST);
    }

    private void order() {
        s.of("Promise 13", "THE ORDER becomes one that is made (kind 0 .. 3): its FILL.");
        int[] fills = {3, 0, 0, 0};
        int[][] orders = {{0, 1, 2, 3}, {1, 2, 0, 3}, {3, 2, 0, 1}, {1, 2, 0, 3}};
        for (int kind = 0; kind < 4; kind++) {
            ThinTables x = Made.star(4, 0);
            made("kind " + kind, x, kind, fills[kind], orders[kind]);
            s.is("kind " + kind + ": FILL is told again", x.count(5), fills[kind]);
        }
        s.of("Promise 13", "OUTSIDE; NOT: 3 with n above 12.");
        ThinTables x = Made.sized(12);
        s.each("kind", OUTSIDE, x::order, -1, 4, 32, LOWEST, HIGHEST);
        s.is("n is 12", x.order(3), 0);
        x.size(13);
        x.change(0, 12);
        s.is("n is 13", x.order(3), NOT);
        s.is("THE ORDER stays", x.node(0, 0), 12);
        s.each("n is 13: kind", OUTSIDE, x::order, -1, 4);
        s.each("n is 13: others are made", 0, x::order, 0, 1, 2);
    }

    private void change() {
        s.of("Promise 14", "The NODE at place k of THE ORDER and that at place m change places: FILL then.");
        ThinTables x = Made.star(20, 0);
        s.is("the first and the last", x.change(0, 19), 0);
        s.is("the last is first", x.node(0, 0), 19);
        s.is("the first is last", x.node(19, 0), 0);
        s.is("by places, not by NODES: as at first", x.change(19, 0), 171);
        s.is("a place with itself", x.change(7, 7), 171);
        s.is("it stays", x.node(7, 0), 7);
        s.is("two others", x.change(18, 19), 171);
        s.is("n is 1", Made.sized(1).change(0, 0), 0);
        s.of("Promise 14", "OUTSIDE.");
        s.each("first place", OUTSIDE, k -> x.change(k, 0), -1, 20, 32, LOWEST, HIGHEST);
        s.each("second place", OUTSIDE, m -> x.change(0, m), -1, 20, 32, LOWEST, HIGHEST);
        s.each("both alike", OUTSIDE, m -> x.change(m, m), -1, 20);
        s.is("THE ORDER stays", x.node(0, 0), 0);
    }

    private void node() {
        s.of("Promise 15", "Of the NODE at place k of THE ORDER: what = 0 it, 1 its COUNT, 2 its PARENT, "
                + "3 how many NODES hang on it along PARENTS, with itself.");
        ThinTables x = Made.star(20, 0);
        x.change(0, 19);
        // 19, 1 .. 18 hang on 0, which is last
        asked(x, 0, 19, 1, 0, 1);
        asked(x, 18, 18, 1, 0, 1);
        asked(x, 19, 0, 0, NONE, 20);
        x.order(0);
        asked(x, 0, 0, 19, 1, 1);
        asked(x, 19, 19, 0, NONE, 20);
        asked(Made.sized(1), 0, 0, 0, NONE, 1);
        asked(Made.graph(4, 0, 1, 2, 3), 1, 1, 0, NONE, 2);
        s.of("Promise 15", "OUTSIDE.");
        s.each("place", OUTSIDE, k -> x.node(k, 0), -1, 20, 32, LOWEST, HIGHEST);
        s.each("what", OUTSIDE, what -> x.node(0, what), -1, 4, 32, LOWEST, HIGHEST);
    }

    private void asked(ThinTables x, int k, int... dues) {
        for (int what = 0; what < 4; what++) {
            s.is("node(" + k + ", " + what + ")", x.node(k, what), dues[what]);
        }
    }

    private void going() {
        s.of("Promise 16", "NODES to which a NODE is JOINED as it goes, as a SET.");
        ThinTables x = Made.star(20, 0);
        s.is("the first", x.going(0), ALL - 1);
        s.is("joined as the first has gone", x.going(1), ALL - 3);
        s.is("the last", x.going(19), 0);
        x.change(0, 19);
        s.is("by NODES, not by places: 0 is last", x.going(0), 0);
        s.is("19 is first", x.going(19), 1);
        s.is("n is 1", Made.diagonal(1, 1).going(0), 0);
        s.of("Promise 16", "OUTSIDE.");
        s.each("NODE", OUTSIDE, x::going, -1, 20, 32, LOWEST, HIGHEST);
    }
}
