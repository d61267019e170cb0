final class Promise01NewObjectTest {
    public static void main(String[] args) {
        DocumentBytes x = new DocumentBytes();
        for (int s = 0; s < 8; s++) {
            Check.dueBytes("a new slot " + s, x, s, Check.bytes(5, 0, 0, 0, 0));
            Check.due("nodes of slot " + s, x.many(s, 1), 1);
            Check.due("depth of slot " + s, x.many(s, 2), 1);
            Check.due("elements of slot " + s, x.look(s, 0, 7), 0);
        }
        Check.due("slot 8", x.many(8, 0), -1);
        Check.due("place before any read", x.place(), -1);
        Check.due("read of a byte that is not there", x.read(0, 1), -1);
        Check.dueTape("a new object", x, 0);
        Check.finish();
    }
}
