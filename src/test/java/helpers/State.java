/** All that an object keeps, as a text: rows, P, THE ORDER, THE SIDE, cells. What was asked is put back. */
final class State {
    private State() {
    }

    static String of(ThinTables x) {
        int n = x.count(0);
        StringBuilder text = new StringBuilder("rows " + n + ", P " + x.count(8) + ", order");
        for (int k = 0; k < n; k++) {
            text.append(' ').append(x.node(k, 0));
        }
        text.append(", side");
        for (int i = 0; i < n; i++) {
            int b = x.side(i, 0);
            x.side(i, b);
            text.append(' ').append(b);
        }
        text.append(", cells");
        for (int k = 0; k < n * n; k++) {
            text.append(' ').append(x.cell(k / n, k % n));
        }
        return text.toString();
    }
}
