final class Promise08NumberTest {
    public static void main(String[] args) {
        DocumentBytes x = Check.with(Check.document(Check.whole("a", Integer.MIN_VALUE), Check.whole("b", 0x01020304),
                Check.longWhole("c", Long.MIN_VALUE), Check.longWhole("d", 0x0102030405060708L), Check.truth("e", 1),
                Check.truth("f", 0), Check.nothing("g"), Check.text("h", Check.bytes('1')),
                Check.element(3, "i", Check.document()), Check.element(4, "j", Check.document()),
                Check.whole("k", -1), Check.longWhole("l", 0xFFFFFFFFL)));
        long[] want = {0, Integer.MIN_VALUE, 0x01020304, Long.MIN_VALUE, 0x0102030405060708L, 1, 0, 0, 0, 0, 0, -1,
            0xFFFFFFFFL};
        for (int node = 0; node < want.length; node++) {
            Check.due("number(0, " + node + ")", x.number(0, node), want[node]);
        }
        int[][] none = {{0, -1}, {0, 13}, {0, Integer.MAX_VALUE}, {0, Integer.MIN_VALUE}, {-1, 1}, {8, 1}, {1, 1}};
        for (int[] n : none) {
            Check.due("number(" + n[0] + ", " + n[1] + ")", x.number(n[0], n[1]), 0);
        }
        Check.finish();
    }
}
