final class Promise13SetTest extends Check {
    /** Nodes: 1 a, 2 b, 3 c, 4 d, 5 e, 6 f, 7 g, 8 g's 0. */
    private static final byte[] ALL = document(whole("a", 1), longWhole("b", 2), truth("c", 0), nothing("d"),
            text("e", xs(8)), inner("f"), row("g", whole("0", 5)));

    public static void main(String[] args) {
        sentence("Promise 13: a number of 32 bits gets another value: true", Promise13SetTest::of32Bits);
        sentence("Promise 13: a number of 64 bits gets another value: true", Promise13SetTest::of64Bits);
        sentence("Promise 13: a truth gets another value: true", Promise13SetTest::truths);
        sentence("Promise 13: the value that it has is one, too", Promise13SetTest::theSameValue);
        sentence("Promise 13: nothing else changes", Promise13SetTest::nothingElse);
        sentence("Promise 13: false, changing nothing, when there is none such: no slot", Promise13SetTest::noSlot);
        sentence("Promise 13: false, changing nothing, when there is none such: no node", Promise13SetTest::noNode);
        sentence("Promise 13: false, changing nothing, when there is none such: neither number nor truth",
                Promise13SetTest::noNumber);
        sentence("Promise 13: false, changing nothing, when the value can't be: of 32 bits", Promise13SetTest::not32Bits);
        sentence("Promise 13: false, changing nothing, when the value can't be: of a truth", Promise13SetTest::noTruth);
        finish();
    }

    private static void done(int node, long v, byte[] wanted) {
        Recorded x = with(ALL);
        x.feedAll(utf8("stays"));
        due("set(0, " + node + ", " + v + ")", x.set(0, node, v), 1);
        due("number", x.number(0, node), v);
        due("the slot", x.bytesOf(0), wanted);
        due("the tape", x.tape(), join(utf8("stays"), new byte[15]));
    }

    private static void refused(int s, int node, long v) {
        Recorded x = with(ALL);
        x.feedAll(utf8("stays"));
        doesNothing("set(" + s + ", " + node + ", " + v + ")", x, y -> y.set(s, node, v), 0);
    }

    private static byte[] all(int a, long b, int c, int g) {
        return document(whole("a", a), longWhole("b", b), truth("c", c), nothing("d"), text("e", xs(8)), inner("f"),
                row("g", whole("0", g)));
    }

    private static void of32Bits() {
        for (int v : new int[] {0, -1, 255, 256, Integer.MAX_VALUE, Integer.MIN_VALUE}) {
            done(1, v, all(v, 2, 0, 5));
            done(8, v, all(1, 2, 0, v));
        }
    }

    private static void of64Bits() {
        long[] values = {0, -1, 1L << 31, -(1L << 31) - 1, 1L << 32, 0x0102030405060708L, Long.MAX_VALUE, Long.MIN_VALUE};
        for (long v : values) {
            done(2, v, all(1, v, 0, 5));
        }
    }

    private static void truths() {
        done(3, 1, all(1, 2, 1, 5));
        Recorded x = with(ALL);
        due("to 1", x.set(0, 3, 1), 1);
        due("back to 0", x.set(0, 3, 0), 1);
        due("the slot", x.bytesOf(0), ALL);
    }

    private static void theSameValue() {
        done(1, 1, ALL);
        done(2, 2, ALL);
        done(3, 0, ALL);
        done(8, 5, ALL);
    }

    private static void nothingElse() {
        Recorded x = with(ALL);
        due("read", x.feedAndRead(1, ALL), 0);
        due("set", x.set(1, 1, 9), 1);
        due("another slot", x.bytesOf(0), ALL);
        due("the slot", x.bytesOf(1), all(9, 2, 0, 5));
        due("nodes", x.many(1, 1), 9);
    }

    private static void noSlot() {
        for (int s : NO_SLOTS) {
            refused(s, 1, 0);
            refused(s, 0, 0);
        }
    }

    private static void noNode() {
        for (int node : new int[] {-1, 9, 10, 700, Integer.MIN_VALUE, Integer.MAX_VALUE}) {
            refused(0, node, 0);
            refused(0, node, 1);
        }
        refused(1, 1, 0);
    }

    private static void noNumber() {
        for (int node : new int[] {0, 4, 5, 6, 7}) {
            refused(0, node, 0);
            refused(0, node, 1);
            refused(0, node, Long.MIN_VALUE);
        }
    }

    private static void not32Bits() {
        long[] values = {2147483648L, -2147483649L, 4294967295L, 4294967296L, 4294967297L, Long.MAX_VALUE, Long.MIN_VALUE};
        for (long v : values) {
            refused(0, 1, v);
            refused(0, 8, v);
        }
    }

    private static void noTruth() {
        for (long v : new long[] {2, -1, 255, 256, 257, 4294967296L, 4294967297L, Long.MAX_VALUE, Long.MIN_VALUE}) {
            refused(0, 3, v);
        }
    }
}
