final class Promise07LookTest {
    private static final byte[] INNER = Check.document(Check.text("", Check.bytes(0, 'x')), Check.longWhole("n", 1));
    private static final byte[] ROW = Check.document(Check.truth("0", 1), Check.element(3, "1", INNER),
            Check.nothing("2"));
    private static final byte[] ALL = Check.document(Check.whole("four", 4), Check.element(4, "row", ROW),
            Check.element(3, "é", Check.document()), Check.element(4, "", Check.document()));

    public static void main(String[] args) {
        DocumentBytes x = new DocumentBytes();
        Check.due("read", Check.read(x, 1, ALL), 0);
        int end = ALL.length;
        // kind, stands in, first, next, bytes of name, of value, of text, elements, depth
        int[][] want = {
            {3, -1, 1, -1, 0, end, 0, 4, 1},
            {16, 0, -1, 2, 4, 4, 0, 0, 1},
            {4, 0, 3, 8, 3, ROW.length, 0, 3, 2},
            {8, 2, -1, 4, 1, 1, 0, 0, 2},
            {3, 2, 5, 7, 1, INNER.length, 0, 2, 3},
            {2, 4, -1, 6, 0, 7, 2, 0, 3},
            {18, 4, -1, -1, 1, 8, 0, 0, 3},
            {10, 2, -1, -1, 1, 0, 0, 0, 2},
            {3, 0, -1, 9, 2, 5, 0, 0, 2},
            {4, 0, -1, -1, 0, 5, 0, 0, 2}};
        for (int node = 0; node < want.length; node++) {
            for (int what = 0; what < 9; what++) {
                Check.due("look(1, " + node + ", " + what + ")", x.look(1, node, what), want[node][what]);
            }
        }
        int[][] none = {{1, 10, 0}, {1, -1, 0}, {1, Integer.MAX_VALUE, 3}, {1, Integer.MIN_VALUE, 3}, {1, 0, -1},
            {1, 0, 9}, {1, 0, Integer.MAX_VALUE}, {1, 0, Integer.MIN_VALUE}, {-1, 0, 0}, {8, 0, 0},
            {Integer.MAX_VALUE, 0, 7}, {0, 1, 0}};
        for (int[] n : none) {
            Check.due("look(" + n[0] + ", " + n[1] + ", " + n[2] + ")", x.look(n[0], n[1], n[2]), -1);
        }
        Check.due("no elements", x.look(0, 0, 2), -1);
        Check.finish();
    }
}
