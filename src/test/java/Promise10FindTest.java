final class Promise10FindTest {
    public static void main(String[] args) {
        DocumentBytes x = Check.with(Check.document(Check.nothing("a"),
                Check.element(3, "ab", Check.document(Check.nothing("b"), Check.nothing(""))),
                Check.element(4, "é", Check.document(Check.nothing("0"), Check.nothing("1"))), Check.nothing("b")));
        found(x, 0, "a", 1);
        found(x, 0, "ab", 2);
        found(x, 0, "é", 5);
        found(x, 0, "b", 8);
        found(x, 0, "", -1);
        found(x, 0, "c", -1);
        found(x, 0, "abc", -1);
        found(x, 2, "b", 3);
        found(x, 2, "", 4);
        found(x, 2, "a", -1);
        found(x, 5, "1", 7);
        found(x, 5, "2", -1);
        found(x, 1, "b", -1);
        found(x, 9, "b", -1);
        found(x, -1, "b", -1);
        tape(x);
        Check.finish();
    }

    private static void found(DocumentBytes x, int node, String name, int want) {
        Check.due("find " + name + " in " + node, Check.find(x, 0, node, Check.utf8(name)), want);
        Check.due("the tape is empty then", x.read(7, 1), -1);
    }

    private static void tape(DocumentBytes x) {
        Check.feed(x, Check.bytes('a', 'b', 0));
        Check.due("more than there are", x.find(0, 0, 21), -1);
        Check.due("far more than there are", x.find(0, 0, Integer.MAX_VALUE), -1);
        Check.due("below 0", x.find(0, 0, -1), -1);
        Check.due("far below 0", x.find(0, 0, Integer.MIN_VALUE), -1);
        Check.due("the tape stayed", x.find(0, 0, 2), 2);
        Check.feed(x, Check.bytes('a', 0));
        Check.due("a name with a 0", x.find(0, 0, 2), -1);
        Check.feed(x, Check.bytes('a'));
        Check.due("all twenty bytes", x.find(0, 0, 20), -1);
        Check.feed(x, Check.bytes('a'));
        Check.due("no such slot", x.find(8, 0, 1), -1);
        Check.dueTape("there was none in a slot that is none", x, 0);
    }
}
