final class Promise12GraftTest {
    public static void main(String[] args) {
        eachKind();
        whatStandsInIt();
        inItself();
        rows();
        refusals();
        depth();
        bytes();
        Check.finish();
    }

    private static int graft(DocumentBytes x, int s, int node, int t, int source, byte[] name) {
        Check.feed(x, name);
        return x.graft(s, node, t, source, name.length);
    }

    private static void eachKind() {
        byte[] inner = Check.document(Check.whole("a", -5), Check.longWhole("b", 1L << 40), Check.truth("c", 1),
                Check.nothing("d"), Check.text("e", Check.bytes('x', 0)), Check.element(4, "f", Check.document()));
        DocumentBytes x = Check.with(inner);
        for (int node = 1; node <= 6; node++) {
            Check.due("graft " + node, graft(x, 3, 0, 0, node, Check.bytes('A' + node)), node);
        }
        Check.due("graft of node 0", graft(x, 3, 0, 0, 0, Check.bytes()), 7);
        Check.due("graft of another slot's node 0", graft(x, 3, 0, 5, 0, Check.utf8("é")), 14);
        Check.dueTape("after graft", x, 0);
        Check.dueBytes("copies", x, 3, Check.document(Check.whole("B", -5), Check.longWhole("C", 1L << 40),
                Check.truth("D", 1), Check.nothing("E"), Check.text("F", Check.bytes('x', 0)),
                Check.element(4, "G", Check.document()), Check.element(3, "", inner),
                Check.element(3, "é", Check.document())));
        Check.dueBytes("the source", x, 0, inner);
    }

    private static void whatStandsInIt() {
        byte[] inner = Check.document(Check.nothing("p"), Check.element(4, "q", Check.document(Check.truth("0", 1))));
        byte[] d = Check.element(3, "d", inner);
        DocumentBytes x = Check.with(Check.document(d, Check.element(3, "to", Check.document()), Check.nothing("z")));
        Check.due("into another", graft(x, 0, 5, 0, 1, Check.utf8("copy")), 6);
        Check.dueBytes("into another", x, 0, Check.document(d, Check.element(3, "to", Check.document(
                Check.element(3, "copy", inner))), Check.nothing("z")));
        Check.due("nodes", x.many(0, 1), 11);
        Check.due("behind", x.look(0, 6, 3), -1);
        Check.due("the last", x.look(0, 10, 0), 10);
    }

    private static void inItself() {
        byte[] all = Check.document(Check.element(3, "a", Check.document(Check.element(3, "b", Check.document()),
                Check.whole("n", 7))), Check.nothing("z"));
        DocumentBytes x = Check.with(all);
        Check.due("all into its innermost", graft(x, 0, 2, 0, 0, Check.utf8("c")), 3);
        Check.dueBytes("all into its innermost", x, 0, Check.document(Check.element(3, "a", Check.document(
                Check.element(3, "b", Check.document(Check.element(3, "c", all))), Check.whole("n", 7))),
                Check.nothing("z")));
        DocumentBytes y = Check.with(all);
        Check.due("into itself", graft(y, 0, 1, 0, 1, Check.utf8("c")), 4);
        Check.dueBytes("into itself", y, 0, Check.document(Check.element(3, "a", Check.document(
                Check.element(3, "b", Check.document()), Check.whole("n", 7), Check.element(3, "c",
                Check.document(Check.element(3, "b", Check.document()), Check.whole("n", 7))))), Check.nothing("z")));
    }

    private static void rows() {
        DocumentBytes x = Check.with(Check.document(Check.element(4, "r", Check.document()), Check.whole("long", 3)));
        byte[][] want = new byte[11][];
        for (int i = 0; i < want.length; i++) {
            want[i] = Check.whole(String.valueOf(i), 3);
            Check.due("graft into a row", x.graft(0, 1, 0, i + 2, 0), i + 2);
        }
        Check.dueBytes("a row", x, 0, Check.document(Check.element(4, "r", Check.document(want)),
                Check.whole("long", 3)));
        Check.due("n in a row", graft(x, 0, 1, 0, 1, Check.utf8("11")), -2);
        Check.dueTape("after -2", x, 0);
    }

    private static void refusals() {
        byte[] all = Check.document(Check.nothing("a"), Check.element(3, "d", Check.document()));
        DocumentBytes x = Check.with(all);
        Check.feed(x, Check.utf8("b"));
        int[][] none = {{-1, 0, 0, 0, 1}, {8, 0, 0, 0, 1}, {0, 3, 0, 0, 1}, {0, -1, 0, 0, 1}, {0, 1, 0, 0, 1},
            {0, 0, -1, 0, 1}, {0, 0, 8, 0, 1}, {0, 0, 0, 3, 1}, {0, 0, 0, -1, 1}, {0, 0, 1, 1, 1}, {0, 0, 0, 1, -1},
            {0, 0, 0, 1, 21}, {0, 0, 0, 1, Integer.MAX_VALUE}, {0, 0, 0, 1, Integer.MIN_VALUE},
            {Integer.MAX_VALUE, 0, 0, 0, 1}, {0, 0, Integer.MIN_VALUE, 0, 1}};
        for (int[] w : none) {
            Check.due("graft(" + w[0] + ", " + w[1] + ", " + w[2] + ", " + w[3] + ", " + w[4] + ")",
                    x.graft(w[0], w[1], w[2], w[3], w[4]), -1);
        }
        Check.dueBytes("nothing came", x, 0, all);
        Check.due("the tape stayed", x.graft(0, 0, 0, 1, 1), 3);
        Check.due("the name is there", graft(x, 0, 0, 0, 1, Check.utf8("b")), -3);
        Check.dueTape("after -3", x, 0);
        x.read(7, 0);
        Check.due("a 0 in the name", graft(x, 0, 0, 0, 1, Check.bytes('c', 0)), -3);
        Check.due("no UTF-8", graft(x, 0, 0, 0, 1, Check.bytes(0xC0, 0x80)), -3);
    }

    private static void depth() {
        DocumentBytes x = Check.with(Check.nested(15));
        Check.read(x, 1, Check.document(Check.element(3, "d", Check.document()), Check.whole("n", 1)));
        Check.due("2 levels in 15", graft(x, 0, 14, 1, 0, Check.utf8("e")), -4);
        Check.dueTape("after -4", x, 0);
        x.read(7, 0);
        Check.due("1 level in 15", graft(x, 0, 14, 1, 1, Check.utf8("e")), 15);
        Check.due("depth", x.many(0, 2), 16);
        Check.due("1 level in 16", graft(x, 0, 15, 1, 1, Check.utf8("e")), -4);
        Check.due("a number in 16", graft(x, 0, 15, 1, 2, Check.utf8("e")), 16);
        Check.read(x, 2, Check.document(Check.whole("n", 1), Check.element(3, "d", Check.document())));
        Check.due("a number ahead of a document in 16", graft(x, 0, 15, 2, 1, Check.utf8("g")), 17);
        Check.due("16 levels in 1", graft(x, 1, 0, 0, 0, Check.utf8("f")), -4);
        Check.due("15 levels in 1", graft(x, 1, 0, 0, 1, Check.utf8("f")), 3);
        Check.due("depth", x.many(1, 2), 16);
        Check.due("the name comes ahead of the depth", graft(x, 1, 0, 0, 0, Check.utf8("f")), -3);
    }

    private static void bytes() {
        DocumentBytes x = Check.with(Check.documentOf(1000));
        Check.read(x, 1, Check.documentOf(994));
        Check.due("2001 bytes", graft(x, 0, 0, 1, 0, Check.utf8("12345")), -5);
        Check.dueTape("after -5", x, 0);
        x.read(7, 0);
        Check.due("unchanged", x.many(0, 0), 1000);
        Check.due("2000 bytes", graft(x, 0, 0, 1, 0, Check.utf8("1234")), 2);
        Check.due("2000 bytes", x.many(0, 0), 2000);
        Check.due("the copy's last letter", x.letter(0, 3, true, 980), 'x');
        Check.due("all into itself", graft(x, 0, 0, 0, 0, Check.utf8("9")), -5);
        Check.due("2000 into another", graft(x, 2, 0, 0, 0, Check.utf8("9")), -5);
    }
}
