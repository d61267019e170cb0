final class Promise14DropTest {
    public static void main(String[] args) {
        documents();
        rows();
        longRows();
        rowsInRows();
        wrongOnes();
        Check.finish();
    }

    private static void documents() {
        byte[] inner = Check.document(Check.whole("x", 1), Check.text("y", Check.xs(4)));
        DocumentBytes x = Check.with(Check.document(Check.nothing("a"), Check.element(3, "b", inner),
                Check.truth("0", 1), Check.whole("1", 3)));
        Check.due("drop in an inner one", x.drop(0, 3), true);
        Check.dueBytes("drop in an inner one", x, 0, Check.document(Check.nothing("a"),
                Check.element(3, "b", Check.document(Check.text("y", Check.xs(4)))), Check.truth("0", 1),
                Check.whole("1", 3)));
        Check.due("drop with what is in it", x.drop(0, 2), true);
        Check.dueBytes("drop with what is in it", x, 0, Check.document(Check.nothing("a"), Check.truth("0", 1),
                Check.whole("1", 3)));
        Check.due("names of a document stay", x.drop(0, 2), true);
        Check.dueBytes("names of a document stay", x, 0, Check.document(Check.nothing("a"), Check.whole("1", 3)));
        Check.due("drop", x.drop(0, 2), true);
        Check.due("drop", x.drop(0, 1), true);
        Check.due("drop", x.drop(0, 1), false);
        Check.dueBytes("nothing is left", x, 0, Check.document());
    }

    private static void rows() {
        DocumentBytes x = Check.with(Check.document(Check.element(4, "r", Check.document(Check.whole("0", 10),
                Check.whole("1", 11), Check.whole("2", 12))), Check.whole("2", 5)));
        Check.due("the middle one", x.drop(0, 3), true);
        Check.dueBytes("the middle one", x, 0, Check.document(Check.element(4, "r", Check.document(
                Check.whole("0", 10), Check.whole("1", 12))), Check.whole("2", 5)));
        Check.due("the last one", x.drop(0, 3), true);
        Check.due("the next name", x.add(0, 1, 10, 0, 0, 0), 3);
        Check.dueBytes("the next name", x, 0, Check.document(Check.element(4, "r", Check.document(
                Check.whole("0", 10), Check.nothing("1"))), Check.whole("2", 5)));
    }

    private static byte[] rowWithout(int count, int dropped) {
        byte[][] elements = new byte[count - (dropped < 0 ? 0 : 1)][];
        for (int i = 0; i < elements.length; i++) {
            elements[i] = Check.whole(String.valueOf(i), dropped < 0 || i < dropped ? i : i + 1);
        }
        return Check.document(Check.element(4, "p", Check.document(Check.element(4, "0", Check.document(elements)),
                Check.truth("1", 1))), Check.nothing("z"));
    }

    private static void longRows() {
        for (int count : new int[] {10, 11, 12, 100, 101, 103}) {
            for (int dropped : new int[] {0, 5, 9, 10, 11, 98, 99, 100, 102}) {
                if (dropped < count) {
                    DocumentBytes x = Check.with(rowWithout(count, -1));
                    Check.due("drop " + dropped, x.drop(0, dropped + 3), true);
                    Check.dueBytes("drop " + dropped + " of " + count, x, 0, rowWithout(count, dropped));
                }
            }
        }
    }

    private static void rowsInRows() {
        byte[] inner = Check.document(Check.nothing("0"), Check.element(4, "1", Check.document(Check.truth("0", 1))));
        byte[] elevenInner = Check.element(4, "1", inner);
        DocumentBytes x = Check.with(Check.document(Check.element(4, "r", Check.document(
                Check.element(4, "0", inner), elevenInner, Check.element(3, "2", inner)))));
        Check.due("the first row", x.drop(0, 2), true);
        Check.dueBytes("the first row", x, 0, Check.document(Check.element(4, "r", Check.document(
                Check.element(4, "0", inner), Check.element(3, "1", inner)))));
        Check.due("in the first row", x.drop(0, 3), true);
        Check.dueBytes("in the first row", x, 0, Check.document(Check.element(4, "r", Check.document(
                Check.element(4, "0", Check.document(Check.element(4, "0", Check.document(Check.truth("0", 1))))),
                Check.element(3, "1", inner)))));
        Check.due("nodes", x.many(0, 1), 9);
    }

    private static void wrongOnes() {
        byte[] all = Check.document(Check.nothing("a"));
        DocumentBytes x = Check.with(all);
        int[][] none = {{0, 0}, {0, -1}, {0, 2}, {0, Integer.MAX_VALUE}, {0, Integer.MIN_VALUE}, {-1, 1}, {8, 1},
            {1, 1}, {1, 0}, {Integer.MIN_VALUE, 1}};
        for (int[] n : none) {
            Check.due("drop(" + n[0] + ", " + n[1] + ")", x.drop(n[0], n[1]), false);
        }
        Check.dueBytes("nothing went", x, 0, all);
    }
}
