final class Promise08NumberTest extends Check {
    public static void main(String[] args) {
        sentence("Promise 8: a number's value, of 32 bits", Promise08NumberTest::of32Bits);
        sentence("Promise 8: a number's value, of 64 bits", Promise08NumberTest::of64Bits);
        sentence("Promise 8: or a truth's", Promise08NumberTest::truths);
        sentence("Promise 8: 0 for others: other kinds", Promise08NumberTest::otherKinds);
        sentence("Promise 8: 0 for others: no such node or slot", Promise08NumberTest::noNode);
        finish();
    }

    private static void of32Bits() {
        int[] values = {0, 1, -1, 0x01020304, 0x7FFFFFFF, 0x80000000, 0xFF, 0xFF00, 0x80, -128, -129};
        for (int v : values) {
            // The truth behind it would be seen in a value that is read too far.
            due("read " + v, with(document(whole("a", v), truth("b", 1))).number(0, 1), v);
            Recorded x = new Recorded();
            due("add " + v, x.add(0, 0, 16, v, 0, 0), 1);
            due("added " + v, x.number(0, 1), v);
        }
    }

    private static void of64Bits() {
        long[] values = {0, 1, -1, 0x0102030405060708L, Long.MAX_VALUE, Long.MIN_VALUE, 0xFFFFFFFFL, 0x80000000L,
            -0x80000000L, 0x100000000L, 0xFF00000000L};
        for (long v : values) {
            due("read " + v, with(document(longWhole("a", v), truth("b", 1))).number(0, 1), v);
            Recorded x = new Recorded();
            due("add " + v, x.add(0, 0, 18, v, 0, 0), 1);
            due("added " + v, x.number(0, 1), v);
        }
    }

    private static void truths() {
        for (int v = 0; v < 2; v++) {
            due("truth " + v, with(document(truth("a", v), truth("b", 1 - v))).number(0, 1), v);
        }
    }

    private static void otherKinds() {
        Recorded x = with(document(nothing("g"), text("h", bytes('1', '2', '3', '4')), inner("i", whole("a", 7)),
                row("j", whole("0", 7))));
        for (int node : new int[] {0, 1, 2, 3, 5}) {
            due("number(0, " + node + ")", x.number(0, node), 0);
        }
        due("the number in one of them", x.number(0, 4), 7);
    }

    private static void noNode() {
        byte[] all = document(whole("a", 7), whole("b", 8));
        int[][] none = {{0, -1}, {0, 3}, {0, 700}, {0, Integer.MAX_VALUE}, {0, Integer.MIN_VALUE}, {-1, 1}, {8, 1},
            {1, 1}, {7, 1}, {Integer.MIN_VALUE, 1}, {Integer.MAX_VALUE, 1}};
        for (int[] n : none) {
            doesNothing("number(" + n[0] + ", " + n[1] + ")", with(all), x -> x.number(n[0], n[1]), 0);
        }
        Recorded x = with(all);
        x.drop(0, 1);
        due("the one that stays", x.number(0, 1), 8);
        due("behind it", x.number(0, 2), 0);
    }
}
