final class Promise06ByteAtTest extends Check {
    public static void main(String[] args) {
        sentence("Promise 6: byte i of a slot's document", Promise06ByteAtTest::each);
        sentence("Promise 6: 0 to 255", Promise06ByteAtTest::withoutSign);
        sentence("Promise 6: the first and the last byte", Promise06ByteAtTest::firstAndLast);
        sentence("Promise 6: -1 when there is none: no such byte", Promise06ByteAtTest::noByte);
        sentence("Promise 6: -1 when there is none: no such slot", Promise06ByteAtTest::noSlot);
        finish();
    }

    private static void each() {
        byte[] all = document(longWhole("\u00e9", -2), whole("z", 0x80FF7F01));
        for (int s = 0; s < 8; s++) {
            Recorded x = new Recorded();
            due("read", x.feedAndRead(s, all), 0);
            for (int i = 0; i < all.length; i++) {
                due("byteAt(" + s + ", " + i + ")", x.byteAt(s, i), all[i] & 255);
            }
            due("another slot", x.byteAt(7 - s, 0), 5);
        }
    }

    private static void withoutSign() {
        byte[][] elements = new byte[32][];
        for (int i = 0; i < 32; i++) {
            byte[] eight = new byte[8];
            for (int j = 0; j < 8; j++) {
                eight[j] = (byte) (8 * i + j);
            }
            elements[i] = element(18, bytes('A' + i), eight);
        }
        Recorded x = with(document(elements));
        for (int v = 0; v < 256; v++) {
            due("byte " + v, x.byteAt(0, 4 + v / 8 * 11 + 3 + v % 8), v);
        }
    }

    private static void firstAndLast() {
        Recorded x = with(documentOf(2000));
        due("byte 0", x.byteAt(0, 0), 2000 % 256);
        due("byte 1", x.byteAt(0, 1), 2000 / 256);
        due("byte 1,998", x.byteAt(0, 1998), 0);
        due("byte 1,997", x.byteAt(0, 1997), 'x');
        due("byte 1,999", x.byteAt(0, 1999), 0);
        due("byte 2,000", x.byteAt(0, 2000), -1);
        due("the last of five", x.byteAt(1, 4), 0);
        due("behind the last of five", x.byteAt(1, 5), -1);
    }

    private static void noByte() {
        for (int i : new int[] {-1, 30, 31, 64, 2000, Integer.MIN_VALUE, Integer.MAX_VALUE}) {
            doesNothing("byteAt(0, " + i + ")", with(documentOf(30)), x -> x.byteAt(0, i), -1);
        }
        Recorded x = with(documentOf(2000));
        due("read of a shorter one", x.feedAndRead(0, documentOf(30)), 0);
        due("a byte of the longer one", x.byteAt(0, 30), -1);
        x.drop(0, 1);
        due("a byte of the one before drop()", x.byteAt(0, 5), -1);
    }

    private static void noSlot() {
        for (int s : NO_SLOTS) {
            for (int i : new int[] {-1, 0, 4, 5, Integer.MAX_VALUE}) {
                doesNothing("byteAt(" + s + ", " + i + ")", with(documentOf(30)), x -> x.byteAt(s, i), -1);
            }
        }
    }
}
