final class Promise11AddTest {
    public static void main(String[] args) {
        eachKind();
        nodesBehind();
        rows();
        noSuchThing();
        notAsItMayBe();
        names();
        depth();
        bytes();
        theOrderOfRefusals();
        Check.finish();
    }

    private static final byte[] NO_LETTERS = Check.bytes();

    private static void eachKind() {
        DocumentBytes x = new DocumentBytes();
        Check.due("a", Check.add(x, 0, 16, Integer.MIN_VALUE, Check.utf8("a"), NO_LETTERS), 1);
        Check.dueTape("after add", x, 0);
        x.read(7, 0);
        Check.due("b", Check.add(x, 0, 18, Long.MIN_VALUE, Check.utf8("b"), NO_LETTERS), 2);
        Check.due("c", Check.add(x, 0, 8, 1, Check.utf8("c"), NO_LETTERS), 3);
        Check.due("d", Check.add(x, 0, 10, 0, Check.utf8("d"), NO_LETTERS), 4);
        Check.due("e", Check.add(x, 0, 2, 0, Check.utf8("é"), Check.bytes('x', 0, 0xC3, 0xA9)), 5);
        Check.due("f", Check.add(x, 0, 3, 0, Check.utf8("f"), NO_LETTERS), 6);
        Check.due("g", Check.add(x, 0, 4, 0, Check.utf8("g"), NO_LETTERS), 7);
        Check.due("no name", Check.add(x, 0, 2, 0, NO_LETTERS, NO_LETTERS), 8);
        Check.dueBytes("each kind", x, 0, Check.document(Check.whole("a", Integer.MIN_VALUE),
                Check.longWhole("b", Long.MIN_VALUE), Check.truth("c", 1), Check.nothing("d"),
                Check.text("é", Check.bytes('x', 0, 0xC3, 0xA9)), Check.element(3, "f", Check.document()),
                Check.element(4, "g", Check.document()), Check.text("", NO_LETTERS)));
        Check.due("number", x.number(0, 1), Integer.MIN_VALUE);
        Check.due("nodes", x.many(0, 1), 9);
        Check.due("another slot", x.many(1, 0), 5);
    }

    private static void nodesBehind() {
        DocumentBytes x = Check.with(Check.document(
                Check.element(3, "a", Check.document(Check.element(3, "b", Check.document(Check.nothing("c"))))),
                Check.nothing("d")));
        Check.due("behind what is in it", Check.add(x, 1, 16, 5, Check.utf8("n"), NO_LETTERS), 4);
        Check.due("in the inner one", Check.add(x, 2, 8, 1, Check.utf8("t"), NO_LETTERS), 4);
        Check.due("in all", Check.add(x, 0, 10, 0, Check.utf8("z"), NO_LETTERS), 7);
        Check.dueBytes("behind", x, 0, Check.document(
                Check.element(3, "a", Check.document(Check.element(3, "b", Check.document(Check.nothing("c"),
                        Check.truth("t", 1))), Check.whole("n", 5))), Check.nothing("d"), Check.nothing("z")));
    }

    private static void rows() {
        DocumentBytes x = Check.with(Check.document(Check.element(4, "r", Check.document()), Check.nothing("z")));
        byte[][] want = new byte[102][];
        for (int i = 0; i < want.length; i++) {
            Check.due("element " + i, x.add(0, 1, 8, i % 2, 0, 0), i + 2);
            want[i] = Check.truth(String.valueOf(i), i % 2);
        }
        Check.dueBytes("a row", x, 0, Check.document(Check.element(4, "r", Check.document(want)), Check.nothing("z")));
        Check.feed(x, Check.bytes('h', 'i'));
        Check.due("a text in a row", x.add(0, 1, 2, 0, 0, 2), 104);
        Check.due("its name", x.letter(0, 104, false, 2), '2');
        Check.due("its letter", x.letter(0, 104, true, 1), 'i');
    }

    private static void noSuchThing() {
        DocumentBytes x = Check.with(Check.document(Check.nothing("a"), Check.text("t", Check.xs(1))));
        Check.feed(x, Check.bytes('b', 'c'));
        int[][] wrong = {{-1, 0, 1, 0}, {8, 0, 1, 0}, {0, 3, 1, 0}, {0, -1, 1, 0}, {0, 1, 1, 0}, {0, 2, 1, 0},
            {0, 0, -1, 0}, {0, 0, 1, -1}, {0, 0, 21, 0}, {0, 0, 20, 1}, {0, 0, 0, 21}, {0, 0, 1, Integer.MAX_VALUE},
            {0, 0, Integer.MAX_VALUE, 1}, {0, 0, Integer.MAX_VALUE, Integer.MAX_VALUE}, {0, 0, Integer.MIN_VALUE, 0},
            {0, 0, 1, Integer.MIN_VALUE}, {0, 0, -1, 1}, {Integer.MIN_VALUE, 0, 1, 0}, {0, Integer.MAX_VALUE, 1, 0}};
        for (int[] w : wrong) {
            for (int kind : new int[] {10, 2, 99}) {
                Check.due("add(" + w[0] + ", " + w[1] + ", " + kind + ", 0, " + w[2] + ", " + w[3] + ")",
                        x.add(w[0], w[1], kind, 0, w[2], w[3]), -1);
            }
        }
        Check.due("the tape stayed", x.add(0, 0, 2, 0, 1, 1), 3);
        Check.dueBytes("nothing else came", x, 0, Check.document(Check.nothing("a"), Check.text("t", Check.xs(1)),
                Check.text("b", Check.bytes('c'))));
    }

    private static void refused(DocumentBytes x, int node, int kind, long v, byte[] name, byte[] letters, int want) {
        int before = x.many(0, 0);
        Check.due("kind " + kind + ", v " + v + ", n " + name.length + ", m " + letters.length,
                Check.add(x, node, kind, v, name, letters), want);
        Check.due("no byte came", x.many(0, 0), before);
        Check.due("the tape is empty", x.read(7, 1), -1);
    }

    private static void notAsItMayBe() {
        DocumentBytes x = Check.with(Check.document(Check.element(4, "r", Check.document())));
        byte[] n = Check.utf8("n");
        byte[] m = Check.utf8("m");
        for (int kind : new int[] {0, 1, 5, 7, 9, 11, 15, 17, 19, -1, -2, 258, Integer.MIN_VALUE, Integer.MAX_VALUE}) {
            refused(x, 0, kind, 0, n, NO_LETTERS, -2);
        }
        refused(x, 0, 16, 2147483648L, n, NO_LETTERS, -2);
        refused(x, 0, 16, -2147483649L, n, NO_LETTERS, -2);
        refused(x, 0, 16, Long.MIN_VALUE, n, NO_LETTERS, -2);
        refused(x, 0, 8, 2, n, NO_LETTERS, -2);
        refused(x, 0, 8, -1, n, NO_LETTERS, -2);
        refused(x, 0, 8, 1L << 32, n, NO_LETTERS, -2);
        for (int kind : new int[] {2, 3, 4, 10}) {
            refused(x, 0, kind, 1, n, NO_LETTERS, -2);
            refused(x, 0, kind, 1L << 32, n, NO_LETTERS, -2);
        }
        for (int kind : new int[] {3, 4, 8, 10, 16, 18}) {
            refused(x, 0, kind, 0, n, m, -2);
        }
        refused(x, 1, 10, 0, Check.utf8("0"), NO_LETTERS, -2);
        refused(x, 1, 2, 0, Check.utf8("0"), m, -2);
        Check.due("the edges", Check.add(x, 0, 16, 2147483647L, n, NO_LETTERS), 2);
    }

    private static void names() {
        DocumentBytes x = Check.with(Check.document(Check.nothing("a"), Check.element(3, "d", Check.document(
                Check.nothing("in"))), Check.element(4, "r", Check.document())));
        refused(x, 0, 10, 0, Check.utf8("a"), NO_LETTERS, -3);
        refused(x, 0, 4, 0, Check.utf8("d"), NO_LETTERS, -3);
        refused(x, 2, 10, 0, Check.utf8("in"), NO_LETTERS, -3);
        refused(x, 0, 10, 0, Check.bytes('b', 0), NO_LETTERS, -3);
        refused(x, 0, 10, 0, Check.bytes(0), NO_LETTERS, -3);
        refused(x, 0, 10, 0, Check.bytes('b', 0xC3), NO_LETTERS, -3);
        refused(x, 0, 2, 0, Check.bytes('b'), Check.bytes(0xED, 0xA0, 0x80), -3);
        // The name's last letter does not go on in the text.
        refused(x, 0, 2, 0, Check.bytes(0xC3), Check.bytes(0xA9), -3);
        refused(x, 4, 2, 0, NO_LETTERS, Check.bytes(0xC3), -3);
        Check.due("a name of what stands in another", Check.add(x, 0, 10, 0, Check.utf8("in"), NO_LETTERS), 5);
        Check.due("the empty name", Check.add(x, 0, 10, 0, NO_LETTERS, NO_LETTERS), 6);
        refused(x, 0, 10, 0, NO_LETTERS, NO_LETTERS, -3);
    }

    private static void depth() {
        DocumentBytes x = Check.with(Check.nested(15));
        Check.due("16 deep", Check.add(x, 14, 4, 0, Check.utf8("r"), NO_LETTERS), 15);
        Check.due("depth", x.many(0, 2), 16);
        refused(x, 15, 3, 0, NO_LETTERS, NO_LETTERS, -4);
        refused(x, 15, 4, 0, NO_LETTERS, NO_LETTERS, -4);
        Check.due("a number there, in a row", x.add(0, 15, 16, 3, 0, 0), 16);
        Check.dueBytes("every SIZE around it", x, 0, Check.nested(15, Check.element(4, "r", Check.document(
                Check.whole("0", 3)))));
    }

    private static void bytes() {
        DocumentBytes x = Check.with(Check.documentOf(1993));
        refused(x, 0, 16, 0, Check.utf8("ab"), NO_LETTERS, -5);
        refused(x, 0, 3, 0, Check.utf8("b"), NO_LETTERS, -5);
        refused(x, 0, 2, 0, Check.utf8("b"), NO_LETTERS, -5);
        Check.due("2000 bytes", Check.add(x, 0, 16, 9, Check.utf8("a"), NO_LETTERS), 2);
        Check.dueBytes("2000 bytes", x, 0, Check.document(Check.text("t", Check.xs(1993 - 13)), Check.whole("a", 9)));
        refused(x, 0, 10, 0, NO_LETTERS, NO_LETTERS, -5);
        DocumentBytes most = new DocumentBytes();
        refused(most, 0, 2, 0, NO_LETTERS, Check.xs(2000), -5);
        refused(most, 0, 2, 0, Check.xs(1), Check.xs(1999), -5);
        refused(most, 0, 10, 0, Check.xs(2000), NO_LETTERS, -5);
        refused(most, 0, 2, 0, NO_LETTERS, Check.xs(1989), -5);
        Check.due("a text of 1988", Check.add(most, 0, 2, 0, NO_LETTERS, Check.xs(1988)), 1);
        Check.due("2000 bytes", most.many(0, 0), 2000);
        DocumentBytes named = new DocumentBytes();
        refused(named, 0, 10, 0, Check.xs(1994), NO_LETTERS, -5);
        Check.due("a name of 1993", Check.add(named, 0, 10, 0, Check.xs(1993), NO_LETTERS), 1);
        rowNamesCount();
    }

    /** The tenth name of a row has one byte, the eleventh two. */
    private static void rowNamesCount() {
        byte[][] ten = new byte[10][];
        for (int i = 0; i < 10; i++) {
            ten[i] = Check.nothing(String.valueOf(i));
        }
        for (int room = 3; room <= 4; room++) {
            byte[] row = Check.element(4, "r", Check.document(ten));
            byte[] text = Check.text("t", Check.xs(2000 - room - 5 - row.length - 8));
            DocumentBytes x = Check.with(Check.document(row, text));
            Check.due("bytes", x.many(0, 0), 2000 - room);
            Check.due("room " + room, x.add(0, 1, 10, 0, 0, 0), room == 3 ? -5 : 12);
        }
    }

    private static void theOrderOfRefusals() {
        DocumentBytes x = Check.with(Check.nested(16));
        refused(x, 15, 3, 1, Check.bytes(255), NO_LETTERS, -2);
        refused(x, 15, 3, 0, Check.bytes(255), NO_LETTERS, -3);
        refused(x, 15, 3, 0, Check.xs(1990), NO_LETTERS, -4);
        refused(x, 15, 10, 0, Check.xs(1990), NO_LETTERS, -5);
        DocumentBytes row = Check.with(Check.document(Check.element(4, "r", Check.document())));
        refused(row, 1, 2, 0, Check.bytes('0'), Check.bytes(255), -2);
        refused(row, 0, 2, 0, Check.bytes('r'), Check.xs(1999), -3);
    }
}
