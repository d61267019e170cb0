final class Promise06ByteAtTest {
    public static void main(String[] args) {
        byte[] all = Check.document(Check.longWhole("é", -2), Check.whole("z", 0x80FF7F01));
        DocumentBytes x = new DocumentBytes();
        Check.due("read", Check.read(x, 2, all), 0);
        Check.dueBytes("as read", x, 2, all);
        Check.due("a byte above 127", x.byteAt(2, 5), 0xC3);
        for (int i : new int[] {-1, all.length, Integer.MIN_VALUE, Integer.MAX_VALUE}) {
            Check.due("byteAt(2, " + i + ")", x.byteAt(2, i), -1);
        }
        for (int s : new int[] {-1, 8, Integer.MIN_VALUE, Integer.MAX_VALUE}) {
            Check.due("byteAt(" + s + ", 0)", x.byteAt(s, 0), -1);
        }
        Check.due("another slot", x.byteAt(1, 0), 5);
        x.drop(2, 1);
        Check.due("behind a document that got shorter", x.byteAt(2, all.length - 1), -1);
        Check.finish();
    }
}
