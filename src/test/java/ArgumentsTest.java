import java.util.Random;

/**
 * Every call with numbers at, next to and far beyond its bounds, on tables of each n: the answers are those of
 * SlowTables, and no call ever throws. Each number stands in each place of a call.
 */
public final class ArgumentsTest {
    private static final int MOST_CALLS = 350;
    private static final int[] FAR = {Integer.MIN_VALUE, Integer.MIN_VALUE + 1, -100002, -100001, -100, -99, -21, -2, -1,
        0, 1, 2, 3, 4, 5, 6, 9, 10, 11, 12, 13, 19, 20, 21, 31, 32, 33, 63, 64, 98, 99, 100, 46337, 46349, 1 << 16,
        (1 << 20) - 1, 1 << 20, 1 << 30, Integer.MAX_VALUE - 1, Integer.MAX_VALUE};
    private static final int[] NEAR = {Integer.MIN_VALUE, -100, -99, -1, 0, 1, 4, 5, 19, 20, 32, 99, 100,
        Integer.MAX_VALUE};
    private static final Due due = new Due();

    public static void main(String[] args) {
        for (int n = 1; n <= 20; n++) {
            for (int fullness = 0; fullness < 4; fullness++) {
                new ArgumentsTest(n, fullness).askAll();
            }
        }
        due.end();
    }

    private final int n;
    private final int fullness;
    private ThinTables fast;
    private SlowTables slow;
    private int calls;

    private ArgumentsTest(int n, int fullness) {
        this.n = n;
        this.fullness = fullness;
        begin();
    }

    /** New objects in the same state: no PLACES, few, more, or more and all in like places. */
    private void begin() {
        Random chance = new Random(100L * n + fullness);
        fast = new ThinTables();
        slow = new SlowTables();
        calls = 0;
        fast.size(n);
        slow.size(n);
        for (int k = 0; k < n * n; k++) {
            boolean like = k / n == k % n;
            int v = chance.nextInt(199) - 99;
            if (chance.nextInt(Math.max(n, 4)) < fullness || like && fullness == 3) {
                fast.set(k / n, k % n, v == 0 ? 1 : v);
                slow.set(k / n, k % n, v == 0 ? 1 : v);
            }
        }
        for (int i = 0; i < n; i++) {
            fast.side(i, i - 7);
            slow.side(i, i - 7);
        }
    }

    private void askAll() {
        for (int call = 0; call < 13; call++) {
            for (int a : FAR) {
                askOne(call, a);
            }
        }
        for (int call = 0; call < 7; call++) {
            for (int a : NEAR) {
                for (int b : NEAR) {
                    askTwo(call, a, b);
                }
            }
        }
        for (int call = 0; call < 3; call++) {
            for (int a : NEAR) {
                for (int b : NEAR) {
                    for (int c : NEAR) {
                        askThree(call, a, b, c);
                    }
                }
            }
        }
    }

    private void same(String call, long got, long want) {
        due.is(n + " rows, fullness " + fullness + ": " + call, got, want);
        if (++calls == MOST_CALLS) {
            begin();
        }
    }

    private void askOne(int call, int a) {
        String with = "(" + a + ")";
        switch (call) {
            case 0 -> same("count" + with, fast.count(a), slow.count(a));
            case 1 -> same("matched" + with, fast.matched(a), slow.matched(a));
            case 2 -> same("columns" + with, fast.columns(a), slow.columns(a));
            case 3 -> same("block" + with, fast.block(a), slow.block(a));
            case 4 -> same("rows" + with, fast.rows(a), slow.rows(a));
            case 5 -> same("joined" + with, fast.joined(a), slow.joined(a));
            case 6 -> same("going" + with, fast.going(a), slow.going(a));
            case 7 -> same("solution" + with, fast.solution(a), slow.solution(a));
            case 8 -> same("order" + with, fast.order(a), slow.order(a));
            case 9 -> same("prime" + with, fast.prime(a), slow.prime(a));
            case 10 -> same("heap", fast.heap(), slow.heap());
            case 11 -> same("determinant", fast.determinant(), slow.determinant());
            default -> same("stop", fast.stop(), slow.stop());
        }
    }

    private void askTwo(int call, int a, int b) {
        String with = "(" + a + ", " + b + ")";
        switch (call) {
            case 0 -> same("cell" + with, fast.cell(a, b), slow.cell(a, b));
            case 1 -> same("side" + with, fast.side(a, b), slow.side(a, b));
            case 2 -> same("node" + with, fast.node(a, b), slow.node(a, b));
            case 3 -> same("inverse" + with, fast.inverse(a, b), slow.inverse(a, b));
            case 4 -> same("exact" + with, fast.exact(a, b), slow.exact(a, b));
            case 5 -> same("change" + with, fast.change(a, b), slow.change(a, b));
            default -> same("full" + with, fast.full(), slow.full());
        }
    }

    private void askThree(int call, int a, int b, int c) {
        String with = "(" + a + ", " + b + ", " + c + ")";
        switch (call) {
            case 0 -> same("factor" + with, fast.factor(a, b, c), slow.factor(a, b, c));
            case 1 -> same("changed" + with, fast.changed(a, b, c), slow.changed(a, b, c));
            default -> same("set" + with, fast.set(a, b, c), slow.set(a, b, c));
        }
    }
}
