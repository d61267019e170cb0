final class Promise05ManyTest {
    public static void main(String[] args) {
        byte[] all = Check.document(Check.whole("a", 1),
                Check.element(4, "b", Check.document(Check.nothing("0"), Check.element(3, "1", Check.document()))),
                Check.element(3, "c", Check.document(Check.text("t", Check.xs(9)))));
        DocumentBytes x = new DocumentBytes();
        Check.due("read", Check.read(x, 6, all), 0);
        Check.due("bytes", x.many(6, 0), all.length);
        Check.due("nodes", x.many(6, 1), 7);
        Check.due("depth", x.many(6, 2), 3);
        Check.due("another slot's bytes", x.many(5, 0), 5);
        Check.due("another slot's nodes", x.many(5, 1), 1);
        Check.due("another slot's depth", x.many(5, 2), 1);
        for (int what : new int[] {-1, 3, Integer.MIN_VALUE, Integer.MAX_VALUE}) {
            Check.due("many(6, " + what + ")", x.many(6, what), -1);
        }
        for (int s : new int[] {-1, 8, Integer.MIN_VALUE, Integer.MAX_VALUE}) {
            for (int what = 0; what < 3; what++) {
                Check.due("many(" + s + ", " + what + ")", x.many(s, what), -1);
            }
        }
        DocumentBytes deep = Check.with(Check.nested(16));
        Check.due("16 deep", deep.many(0, 2), 16);
        Check.due("16 nodes", deep.many(0, 1), 16);
        deep.drop(0, 1);
        Check.due("1 deep", deep.many(0, 2), 1);
        DocumentBytes plain = Check.with(Check.document(Check.nothing("a"), Check.nothing("b")));
        Check.due("an element that is none is not deeper", plain.many(0, 2), 1);
        Check.finish();
    }
}
