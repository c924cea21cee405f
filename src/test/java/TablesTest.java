import java.util.Random;

/** Many tables that chance (always the same) fills: all that can be asked of each, as SlowTables answers. */
public final class TablesTest {
    private static final int MATCHED = 20000;
    private static final int ORDERED = 1500;
    private static final int SOLVED = 1500;
    private static final int[] PRIMES = {2, 3, 7, 10007, 46337};
    private static final Due due = new Due();

    public static void main(String[] args) {
        for (int k = 0; k < MATCHED; k++) {
            new TablesTest("matched " + k, 1000 + k, k % 12 == 0 ? 20 : 10, 0.4, 1).askMatching();
        }
        for (int k = 0; k < ORDERED; k++) {
            new TablesTest("ordered " + k, 100000 + k, k % 3 == 0 ? 20 : k % 3 == 1 ? 12 : 7, 0.25, 1).askOrders();
        }
        for (int k = 0; k < SOLVED; k++) {
            new TablesTest("solved " + k, 200000 + k, k % 5 == 0 ? 20 : 6, 0.7, k % 2 == 0 ? 99 : 2).askRests();
        }
        due.end();
    }

    private final String name;
    private final Random chance;
    private final ThinTables fast = new ThinTables();
    private final SlowTables slow = new SlowTables();
    private final int n;

    private TablesTest(String name, long seed, int mostRows, double mostFull, int mostValue) {
        this.name = name;
        chance = new Random(seed);
        n = 1 + chance.nextInt(mostRows);
        double fullness = chance.nextDouble() * mostFull;
        fast.size(n);
        slow.size(n);
        for (int i = 0; i < n; i++) {
            int b = chance.nextInt(2 * mostValue + 1) - mostValue;
            fast.side(i, b);
            slow.side(i, b);
            for (int j = 0; j < n; j++) {
                int v = chance.nextInt(2 * mostValue + 1) - mostValue;
                if (chance.nextDouble() < fullness || i == j && mostValue > 1) {
                    fast.set(i, j, v);
                    slow.set(i, j, v);
                }
            }
        }
    }

    private void askMatching() {
        due.is(name + ": RANK", fast.count(2), slow.count(2));
        due.is(name + ": BLOCKS", fast.count(3), slow.count(3));
        due.is(name + ": heap", fast.heap(), slow.heap());
        for (int i = 0; i < n; i++) {
            due.is(name + ": matched " + i, fast.matched(i), slow.matched(i));
            due.is(name + ": block " + i, fast.block(i), slow.block(i));
            due.is(name + ": rows " + i, fast.rows(i), slow.rows(i));
        }
    }

    private void askOrders() {
        for (int kind = 0; kind < 4; kind++) {
            due.is(name + ": order " + kind, fast.order(kind), slow.order(kind));
            askOrder(kind);
        }
        int k = chance.nextInt(n);
        int m = chance.nextInt(n);
        due.is(name + ": change", fast.change(k, m), slow.change(k, m));
        askOrder(4);
    }

    private void askOrder(int kind) {
        for (int what = 4; what < 10; what++) {
            due.is(name + ", " + kind + ": count " + what, fast.count(what), slow.count(what));
        }
        for (int k = 0; k < n; k++) {
            due.is(name + ", " + kind + ": going " + k, fast.going(k), slow.going(k));
            due.is(name + ", " + kind + ": joined " + k, fast.joined(k), slow.joined(k));
            for (int what = 0; what < 4; what++) {
                due.is(name + ", " + kind + ": node " + k + ", " + what, fast.node(k, what), slow.node(k, what));
            }
        }
    }

    private void askRests() {
        int p = PRIMES[chance.nextInt(PRIMES.length)];
        fast.prime(p);
        slow.prime(p);
        int kind = chance.nextInt(3);
        due.is(name + ": order", fast.order(kind), slow.order(kind));
        due.is(name + ": determinant", fast.determinant(), slow.determinant());
        due.is(name + ": rank", fast.rank(), slow.rank());
        due.is(name + ": stop", fast.stop(), slow.stop());
        due.is(name + ": full", fast.full(), slow.full());
        for (int k = 0; k < 12; k++) {
            int i = chance.nextInt(n);
            int j = chance.nextInt(n);
            int v = chance.nextInt(199) - 99;
            due.is(name + ": LEFT " + i + ", " + j, fast.factor(i, j, 0), slow.factor(i, j, 0));
            due.is(name + ": UPPER " + i + ", " + j, fast.factor(i, j, 1), slow.factor(i, j, 1));
            due.is(name + ": solution " + i, fast.solution(i), slow.solution(i));
            due.is(name + ": inverse " + i + ", " + j, fast.inverse(i, j), slow.inverse(i, j));
            due.is(name + ": changed " + i + ", " + j + ", " + v, fast.changed(i, j, v), slow.changed(i, j, v));
            due.is(name + ": exact " + i + ", " + k % 3, fast.exact(i, k % 3), slow.exact(i, k % 3));
        }
    }
}
