final class Promise13SetTest {
    public static void main(String[] args) {
        DocumentBytes x = Check.with(Check.document(Check.whole("a", 1), Check.longWhole("b", 2), Check.truth("c", 0),
                Check.nothing("d"), Check.text("e", Check.xs(8)), Check.element(3, "f", Check.document()),
                Check.element(4, "g", Check.document(Check.whole("0", 5)))));
        done(x, 1, 2147483647L, true);
        done(x, 1, -2147483648L, true);
        done(x, 1, 2147483648L, false);
        done(x, 1, -2147483649L, false);
        done(x, 1, 1L << 32, false);
        done(x, 2, Long.MAX_VALUE, true);
        done(x, 2, Long.MIN_VALUE, true);
        done(x, 2, -3, true);
        done(x, 3, 1, true);
        done(x, 3, 2, false);
        done(x, 3, -1, false);
        done(x, 3, 256, false);
        done(x, 3, 1L << 32, false);
        done(x, 3, 0, true);
        done(x, 8, -9, true);
        for (int node : new int[] {0, 4, 5, 6, 7, 9, -1, Integer.MAX_VALUE, Integer.MIN_VALUE}) {
            done(x, node, 0, false);
            done(x, node, 1, false);
        }
        for (int s : new int[] {-1, 8, 1, Integer.MAX_VALUE}) {
            Check.due("slot " + s, x.set(s, 1, 1), false);
        }
        Check.dueBytes("after set", x, 0, Check.document(Check.whole("a", Integer.MIN_VALUE), Check.longWhole("b", -3),
                Check.truth("c", 0), Check.nothing("d"), Check.text("e", Check.xs(8)),
                Check.element(3, "f", Check.document()), Check.element(4, "g", Check.document(Check.whole("0", -9)))));
        Check.finish();
    }

    private static void done(DocumentBytes x, int node, long v, boolean want) {
        long before = x.number(0, node);
        Check.due("set(0, " + node + ", " + v + ")", x.set(0, node, v), want);
        Check.due("number(0, " + node + ")", x.number(0, node), want ? v : before);
    }
}
