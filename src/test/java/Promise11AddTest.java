final class Promise11AddTest extends Check {
    public static void main(String[] args) {
        sentence("Promise 11: a new element behind the others of a document or row; its node", Promise11AddTest::behind);
        sentence("Promise 11: the first n bytes of the tape are its name", Promise11AddTest::itsName);
        sentence("Promise 11: of a row, n is 0 and its name the next number", Promise11AddTest::nextNumber);
        sentence("Promise 11: the next m its text", Promise11AddTest::itsText);
        sentence("Promise 11: n and m may be as many as there are", Promise11AddTest::allThereAre);
        sentence("Promise 11: the tape is empty then", Promise11AddTest::tapeIsEmpty);
        sentence("Promise 11: v is its number or truth (0 for other kinds)", Promise11AddTest::itsNumber);
        sentence("Promise 11: documents and rows are without elements", Promise11AddTest::withoutElements);
        sentence("Promise 11: -1 when there is no such slot (the tape stays)", Promise11AddTest::noSlot);
        sentence("Promise 11: -1 when there is no such node (the tape stays)", Promise11AddTest::noNode);
        sentence("Promise 11: -1 when it is neither document nor row (the tape stays)", Promise11AddTest::noHolder);
        sentence("Promise 11: -1 when n or m is below 0 (the tape stays)", Promise11AddTest::below0);
        sentence("Promise 11: -1 when n and m are more than there are (the tape stays)", Promise11AddTest::tooMany);
        sentence("Promise 11: -1 comes ahead of the other refusals, and the tape stays", Promise11AddTest::minus1First);
        sentence("Promise 11: -2 when the kind is none", Promise11AddTest::noKind);
        sentence("Promise 11: -2 when v is not as it may be", Promise11AddTest::wrongV);
        sentence("Promise 11: -2 when n is not as it may be", Promise11AddTest::wrongN);
        sentence("Promise 11: -2 when m is not as it may be", Promise11AddTest::wrongM);
        sentence("Promise 11: -3 when the name is there already", Promise11AddTest::nameIsThere);
        sentence("Promise 11: -3 when the name has a 0", Promise11AddTest::nameHas0);
        sentence("Promise 11: -3 when the name is no right UTF-8", Promise11AddTest::nameNoUtf8);
        sentence("Promise 11: -3 when the text is no right UTF-8", Promise11AddTest::textNoUtf8);
        sentence("Promise 11: -4 when it would be too deep", Promise11AddTest::tooDeep);
        sentence("Promise 11: -5 when the document would have more than 2,000 bytes", Promise11AddTest::tooLong);
        sentence("Promise 11: -5 counts a row's name of two, three digits", Promise11AddTest::rowNamesCount);
        sentence("Promise 11: -2, -3, -4, -5, in this order", Promise11AddTest::theOrder);
        finish();
    }

    /** Nodes: 1 a, 2 t, 3 d, 4 d's r, 5 r's 0, 6 i, 7 l, 8 h, 9 e. */
    private static final byte[] ALL = document(nothing("a"), text("t", xs(2)), inner("d", row("r", truth("0", 1))),
            whole("i", 1), longWhole("l", 2), truth("h", 0), inner("e"));

    /** Refused with the tape empty afterwards and all slots as they were. */
    private static void refused(byte[] all, int node, int kind, long v, byte[] name, byte[] letters, int want) {
        Recorded x = with(all);
        x.feedAll(join(name, letters));
        emptiesTheTape("kind " + kind + ", v " + v + ", n " + name.length + ", m " + letters.length + " in " + node, x,
                y -> y.add(0, node, kind, v, name.length, letters.length), want);
    }

    private static void added(byte[] all, int node, int kind, long v, byte[] name, byte[] letters, int want,
            byte[] wanted) {
        Recorded x = with(all);
        due("kind " + kind + ", v " + v + ", n " + name.length + ", m " + letters.length + " in " + node,
                x.feedAndAdd(node, kind, v, name, letters), want);
        due("the document", x.bytesOf(0), wanted);
        due("the tape", x.tapeCount(), 0);
    }

    private static void behind() {
        byte[] all = document(inner("a", inner("b", nothing("c"))), nothing("d"));
        Recorded x = with(all);
        due("behind what is in it", x.feedAndAdd(1, 16, 5, utf8("n"), EMPTY), 4);
        due("in the inner one", x.feedAndAdd(2, 8, 1, utf8("t"), EMPTY), 4);
        due("in all", x.feedAndAdd(0, 10, 0, utf8("z"), EMPTY), 7);
        due("the document", x.bytesOf(0), document(inner("a", inner("b", nothing("c"), truth("t", 1)), whole("n", 5)),
                nothing("d"), nothing("z")));
        due("nodes", x.many(0, 1), 8);
        due("the next one behind d", x.look(0, 6, 3), 7);
        for (int s = 0; s < 8; s++) {
            Recorded y = new Recorded();
            due("the first in slot " + s, y.add(s, 0, 10, 0, 0, 0), 1);
            due("slot " + s, y.bytesOf(s), document(nothing("")));
            due("another slot", y.bytesOf(7 - s), document());
        }
        for (int kind : KINDS) {
            added(all, 1, kind, 0, utf8("k"), EMPTY, 4, document(inner("a", inner("b", nothing("c")),
                    element(kind, "k", plainValue(kind))), nothing("d")));
        }
    }

    private static void itsName() {
        added(document(), 0, 10, 0, EMPTY, EMPTY, 1, document(nothing("")));
        added(document(), 0, 10, 0, utf8("n"), EMPTY, 1, document(nothing("n")));
        added(document(), 0, 10, 0, utf8("\u00e9\u20ac\ud83d\ude00"), EMPTY, 1, document(nothing("\u00e9\u20ac\ud83d\ude00")));
        added(document(), 0, 10, 0, xs(1993), EMPTY, 1, document(element(10, xs(1993), EMPTY)));
        added(document(nothing("a"), nothing("ab")), 0, 10, 0, utf8("abc"), EMPTY, 3,
                document(nothing("a"), nothing("ab"), nothing("abc")));
        added(document(inner("d", nothing("in"))), 0, 10, 0, utf8("in"), EMPTY, 3,
                document(inner("d", nothing("in")), nothing("in")));
        Recorded x = new Recorded();
        x.feedAll(utf8("nameandmore"));
        due("the first four", x.add(0, 0, 10, 0, 4, 0), 1);
        due("their element", x.bytesOf(0), document(nothing("name")));
    }

    private static void nextNumber() {
        Recorded x = with(document(row("r"), nothing("z")));
        byte[][] want = new byte[102][];
        for (int i = 0; i < want.length; i++) {
            due("element " + i, x.add(0, 1, 8, i % 2, 0, 0), i + 2);
            want[i] = truth(String.valueOf(i), i % 2);
        }
        due("a row of 102", x.bytesOf(0), document(row("r", want), nothing("z")));
        x.feedAll(utf8("hi"));
        due("a text in a row", x.add(0, 1, 2, 0, 0, 2), 104);
        due("its name", x.letter(0, 104, false, 2), '2');
        due("its letters", x.letter(0, 104, true, 1), 'i');
        for (int kind : KINDS) {
            added(document(row("r", row("0"), nothing("1"))), 1, kind, 0, EMPTY, EMPTY, 4,
                    document(row("r", row("0"), nothing("1"), element(kind, "2", plainValue(kind)))));
        }
    }

    private static void itsText() {
        added(document(), 0, 2, 0, EMPTY, EMPTY, 1, document(text("", EMPTY)));
        added(document(), 0, 2, 0, utf8("t"), utf8("hello"), 1, document(text("t", utf8("hello"))));
        added(document(), 0, 2, 0, EMPTY, bytes(0, 0), 1, document(text("", bytes(0, 0))));
        added(document(), 0, 2, 0, utf8("t"), utf8("\u00e9\u20ac\ud83d\ude00"), 1,
                document(text("t", utf8("\u00e9\u20ac\ud83d\ude00"))));
        added(document(), 0, 2, 0, EMPTY, xs(1988), 1, document(text("", xs(1988))));
        added(document(nothing("a")), 0, 2, 0, utf8("b"), utf8("a"), 2, document(nothing("a"), text("b", utf8("a"))));
    }

    private static void allThereAre() {
        added(document(), 0, 10, 0, xs(20), EMPTY, 1, document(element(10, xs(20), EMPTY)));
        added(document(), 0, 2, 0, EMPTY, xs(20), 1, document(text("", xs(20))));
        added(document(), 0, 2, 0, xs(7), xs(13), 1, document(element(2, xs(7), textValue(xs(13)))));
        added(document(), 0, 2, 0, xs(980), xs(1000), 1, document(element(2, xs(980), textValue(xs(1000)))));
    }

    private static void tapeIsEmpty() {
        int[][] counts = {{0, 0}, {1, 0}, {0, 1}, {2, 3}, {20, 0}};
        for (int[] c : counts) {
            Recorded x = new Recorded();
            x.feedAll(utf8("abcdefghijklmnopqrstuvwxyz"));
            due("add", x.add(0, 0, 2, 0, c[0], c[1]), 1);
            due("the tape", x.tapeCount(), 0);
        }
    }

    private static void itsNumber() {
        for (long v : new long[] {0, 1, -1, Integer.MAX_VALUE, Integer.MIN_VALUE}) {
            added(document(), 0, 16, v, EMPTY, EMPTY, 1, document(whole("", (int) v)));
        }
        for (long v : new long[] {0, 1, -1, 1L << 31, -(1L << 31) - 1, 1L << 32, Long.MAX_VALUE, Long.MIN_VALUE}) {
            added(document(), 0, 18, v, EMPTY, EMPTY, 1, document(longWhole("", v)));
        }
        added(document(), 0, 8, 0, EMPTY, EMPTY, 1, document(truth("", 0)));
        added(document(), 0, 8, 1, EMPTY, EMPTY, 1, document(truth("", 1)));
    }

    private static void withoutElements() {
        for (int kind = 3; kind <= 4; kind++) {
            Recorded x = new Recorded();
            due("add", x.add(0, 0, kind, 0, 0, 0), 1);
            due("elements", x.look(0, 1, 7), 0);
            due("bytes", x.bytesOf(0), document(element(kind, "", document())));
            due("an element can come to it", x.add(0, 1, 10, 0, 0, 0), 2);
        }
    }

    /** Each kind, right or none, is refused with -1 and nothing is done. */
    private static void staying(int s, int node, int n, int m) {
        for (int kind : new int[] {10, 2, 3, 99}) {
            Recorded x = with(ALL);
            x.feedAll(utf8("bc"));
            doesNothing("add(" + s + ", " + node + ", " + kind + ", 0, " + n + ", " + m + ")", x,
                    y -> y.add(s, node, kind, 0, n, m), -1);
            due("the tape can still be used", x.add(0, 0, 2, 0, 1, 1), 10);
        }
    }

    private static void noSlot() {
        for (int s : NO_SLOTS) {
            staying(s, 0, 0, 0);
            staying(s, 0, 1, 0);
            staying(s, -1, 1, 0);
        }
    }

    private static void noNode() {
        for (int node : new int[] {-1, 10, 11, 700, Integer.MIN_VALUE, Integer.MAX_VALUE}) {
            staying(0, node, 0, 0);
            staying(0, node, 1, 0);
        }
        staying(1, 1, 0, 0);
    }

    private static void noHolder() {
        for (int node : new int[] {1, 2, 5, 6, 7, 8}) {
            staying(0, node, 0, 0);
            staying(0, node, 1, 0);
        }
    }

    private static void below0() {
        for (int below : new int[] {-1, -20, Integer.MIN_VALUE}) {
            staying(0, 0, below, 0);
            staying(0, 0, below, 1);
            staying(0, 0, 0, below);
            staying(0, 0, 1, below);
            staying(0, 0, 20, below);
            staying(0, 4, below, 0);
            staying(0, 4, 0, below);
        }
        staying(0, 0, Integer.MIN_VALUE, Integer.MIN_VALUE);
    }

    private static void tooMany() {
        int[][] counts = {{21, 0}, {0, 21}, {20, 1}, {1, 20}, {11, 10}, {Integer.MAX_VALUE, 0}, {0, Integer.MAX_VALUE},
            {1, Integer.MAX_VALUE}, {Integer.MAX_VALUE, 1}, {Integer.MAX_VALUE, Integer.MAX_VALUE}, {20, Integer.MAX_VALUE}};
        for (int[] c : counts) {
            staying(0, 0, c[0], c[1]);
            staying(0, 4, c[0], c[1]);
        }
        doesNothing("1 of none", with(ALL), x -> x.add(0, 0, 10, 0, 1, 0), -1);
        Recorded full = new Recorded();
        full.feedAll(xs(2000));
        doesNothing("2,001 of 2,000", full, x -> x.add(0, 0, 2, 0, 1, 2000), -1);
        emptiesTheTape("2,000 of 2,000", full, x -> x.add(0, 0, 2, 0, 1, 1999), -5);
    }

    private static void minus1First() {
        Recorded x = with(nested(16, nothing("a")));
        x.feedAll(utf8("aa"));
        doesNothing("a kind that is none", x, y -> y.add(0, 99, 99, 0, 1, 0), -1);
        doesNothing("a v that may not be", x, y -> y.add(0, 16, 8, 7, 1, 0), -1);
        doesNothing("a name that is there, too deep", x, y -> y.add(0, 15, 3, 0, 21, 0), -1);
        due("too deep", x.add(0, 15, 3, 0, 2, 0), -4);
    }

    private static void noKind() {
        for (int kind = -1; kind < 300; kind++) {
            boolean none = true;
            for (int k : KINDS) {
                none &= k != kind;
            }
            if (none) {
                refused(ALL, 0, kind, 0, utf8("n"), EMPTY, -2);
            }
        }
        for (int kind : new int[] {Integer.MIN_VALUE, Integer.MAX_VALUE, 256 + 10, -256 + 16, 65536 + 3}) {
            refused(ALL, 0, kind, 0, utf8("n"), EMPTY, -2);
            refused(ALL, 4, kind, 0, EMPTY, EMPTY, -2);
        }
    }

    private static void wrongV() {
        for (long v : new long[] {2147483648L, -2147483649L, 4294967295L, 4294967296L, Long.MIN_VALUE, Long.MAX_VALUE}) {
            refused(ALL, 0, 16, v, utf8("n"), EMPTY, -2);
            refused(ALL, 4, 16, v, EMPTY, EMPTY, -2);
        }
        for (long v : new long[] {2, -1, 256, 257, 4294967296L, 4294967297L, Long.MIN_VALUE, Long.MAX_VALUE}) {
            refused(ALL, 0, 8, v, utf8("n"), EMPTY, -2);
        }
        for (int kind : new int[] {2, 3, 4, 10}) {
            for (long v : new long[] {1, -1, 256, 4294967296L, Long.MIN_VALUE, Long.MAX_VALUE}) {
                refused(ALL, 0, kind, v, utf8("n"), EMPTY, -2);
            }
        }
    }

    private static void wrongN() {
        for (int kind : KINDS) {
            refused(ALL, 4, kind, 0, utf8("1"), EMPTY, -2);
            refused(ALL, 4, kind, 0, xs(20), EMPTY, -2);
        }
        refused(ALL, 4, 2, 0, utf8("1"), utf8("m"), -2);
    }

    private static void wrongM() {
        for (int kind : new int[] {3, 4, 8, 10, 16, 18}) {
            refused(ALL, 0, kind, 0, utf8("n"), utf8("m"), -2);
            refused(ALL, 0, kind, 0, EMPTY, xs(20), -2);
            refused(ALL, 4, kind, 0, EMPTY, utf8("m"), -2);
        }
    }

    private static void nameIsThere() {
        for (int kind : KINDS) {
            for (String name : new String[] {"a", "d", "e"}) {
                refused(ALL, 0, kind, 0, utf8(name), EMPTY, -3);
            }
            refused(ALL, 3, kind, 0, utf8("r"), EMPTY, -3);
        }
        refused(document(nothing("")), 0, 10, 0, EMPTY, EMPTY, -3);
        refused(document(nothing("\u00e9")), 0, 2, 0, utf8("\u00e9"), utf8("m"), -3);
        refused(document(element(10, xs(1980), EMPTY)), 0, 10, 0, xs(1980), EMPTY, -3);
        Recorded x = with(document(nothing("a")));
        x.drop(0, 1);
        due("no longer there", x.feedAndAdd(0, 10, 0, utf8("a"), EMPTY), 1);
    }

    private static void nameHas0() {
        byte[][] names = {bytes(0), bytes(0, 'b'), bytes('b', 0), bytes('b', 0, 'c'), new byte[20], join(xs(1900), bytes(0))};
        for (byte[] name : names) {
            refused(ALL, 0, 10, 0, name, EMPTY, -3);
            refused(ALL, 3, 2, 0, name, utf8("m"), -3);
        }
    }

    private static final byte[][] NO_UTF8 = {bytes(0x80), bytes(0xBF), bytes(0xC0, 0x80), bytes(0xC1, 0xBF),
        bytes(0xC3), bytes(0xC3, 'a'), bytes(0xE0, 0x9F, 0xBF), bytes(0xE2, 0x82), bytes(0xED, 0xA0, 0x80),
        bytes(0xED, 0xBF, 0xBF), bytes(0xF0, 0x8F, 0xBF, 0xBF), bytes(0xF0, 0x9F, 0x98), bytes(0xF4, 0x90, 0x80, 0x80),
        bytes(0xF5, 0x80, 0x80, 0x80), bytes(0xFF)};

    private static void nameNoUtf8() {
        for (byte[] w : NO_UTF8) {
            refused(ALL, 0, 10, 0, w, EMPTY, -3);
            refused(ALL, 0, 3, 0, join(utf8("z\u00e9"), w), EMPTY, -3);
            refused(ALL, 3, 2, 0, join(w, utf8("z")), utf8("m"), -3);
        }
        // A name's last letter does not go on in the text, nor in what else is on the tape.
        refused(ALL, 0, 2, 0, bytes(0xC3), bytes(0xA9), -3);
        refused(ALL, 0, 2, 0, bytes('z', 0xC3), bytes(0xA9), -3);
        cutOff(2, 0, bytes('z', 0xC3), bytes(0xA9));
        cutOff(4, 0, bytes('z', 0xF0, 0x9F, 0x98), bytes(0x80));
    }

    /** The first n and m bytes end within a letter that the tape goes on with. */
    private static void cutOff(int n, int m, byte[] first, byte[] rest) {
        Recorded x = with(ALL);
        x.feedAll(join(first, rest));
        emptiesTheTape("n " + n + ", m " + m + ", in a letter", x, y -> y.add(0, 0, 2, 0, n, m), -3);
    }

    private static void textNoUtf8() {
        cutOff(0, 1, bytes(0xC3), bytes(0xA9));
        cutOff(0, 2, bytes('z', 0xC3), bytes(0xA9));
        cutOff(1, 3, bytes('z', 'z', 0xE2, 0x82), bytes(0xAC));
        cutOff(1, 19, join(xs(18), bytes(0xE2, 0x82)), bytes(0xAC));

        for (byte[] w : NO_UTF8) {
            refused(ALL, 0, 2, 0, utf8("n"), w, -3);
            refused(ALL, 0, 2, 0, EMPTY, join(utf8("z\u00e9"), w), -3);
            refused(ALL, 4, 2, 0, EMPTY, join(w, bytes(0)), -3);
        }
    }

    private static void tooDeep() {
        byte[] deepest = nested(15, row("r"));
        for (int kind = 3; kind <= 4; kind++) {
            refused(deepest, 15, kind, 0, EMPTY, EMPTY, -4);
            refused(nested(16), 15, kind, 0, utf8("d"), EMPTY, -4);
            added(nested(15), 14, kind, 0, utf8("d"), EMPTY, 15, nested(15, element(kind, "d", document())));
            added(nested(16), 14, kind, 0, utf8("e"), EMPTY, 16, nested(15, inner("d"), element(kind, "e", document())));
        }
        for (int kind : new int[] {2, 8, 10, 16, 18}) {
            added(deepest, 15, kind, 0, EMPTY, EMPTY, 16, nested(15, row("r", element(kind, "0", plainValue(kind)))));
        }
        Recorded x = new Recorded();
        for (int deep = 1; deep < 16; deep++) {
            due("one deeper than " + deep, x.add(0, deep - 1, 3, 0, 0, 0), deep);
        }
        emptiesTheTape("one deeper than 16", x, y -> y.add(0, 15, 3, 0, 0, 0), -4);
    }

    private static void tooLong() {
        for (int kind : KINDS) {
            byte[] wanted = element(kind, "n", plainValue(kind));
            byte[] just = text("t", xs(2000 - 5 - 8 - wanted.length));
            byte[] over = text("t", xs(2000 - 5 - 8 - wanted.length + 1));
            added(document(just), 0, kind, 0, utf8("n"), EMPTY, 2, document(just, wanted));
            refused(document(over), 0, kind, 0, utf8("n"), EMPTY, -5);
            refused(documentOf(2000), 0, kind, 0, utf8("n"), EMPTY, -5);
        }
        byte[] ahead = text("t", xs(1900));
        // 1,908 and 5 bytes are there, 8 and 5 of the inner one's; 74 are left.
        added(document(ahead, inner("d")), 2, 2, 0, utf8("n"), xs(71), 3,
                document(ahead, inner("d", text("n", xs(71)))));
        refused(document(ahead, inner("d")), 2, 2, 0, utf8("n"), xs(72), -5);
        refused(document(), 0, 2, 0, EMPTY, xs(1989), -5);
        refused(document(), 0, 2, 0, EMPTY, xs(2000), -5);
        refused(document(), 0, 2, 0, xs(1), xs(1999), -5);
        refused(document(), 0, 10, 0, xs(1994), EMPTY, -5);
        refused(document(), 0, 10, 0, xs(2000), EMPTY, -5);
        refused(documentOf(2000), 0, 10, 0, EMPTY, EMPTY, -5);
        refused(documentOf(1999), 0, 10, 0, EMPTY, EMPTY, -5);
        added(documentOf(1998), 0, 10, 0, EMPTY, EMPTY, 2, document(text("t", xs(1998 - 13)), nothing("")));
    }

    private static void rowNamesCount() {
        for (int count : new int[] {0, 9, 10, 11, 99, 100}) {
            int length = 2 + String.valueOf(count).length();
            byte[] row = longRow("r", count);
            byte[] just = text("t", xs(2000 - length - 5 - row.length - 8));
            byte[] over = text("t", xs(2000 - length - 5 - row.length - 8 + 1));
            due("just room in a row of " + count, with(document(row, just)).add(0, 1, 10, 0, 0, 0), count + 2);
            due("a byte too few in a row of " + count, with(document(row, over)).add(0, 1, 10, 0, 0, 0), -5);
        }
    }

    private static void theOrder() {
        byte[] deep = nested(16);
        refused(deep, 15, 3, 1, bytes(255), EMPTY, -2);
        refused(deep, 15, 99, 0, xs(1990), EMPTY, -2);
        refused(deep, 15, 3, 0, bytes(255), EMPTY, -3);
        refused(deep, 15, 3, 0, join(xs(1990), bytes(0)), EMPTY, -3);
        refused(deep, 15, 3, 0, xs(1990), EMPTY, -4);
        refused(deep, 15, 10, 0, xs(1990), EMPTY, -5);
        byte[] row = document(row("r"));
        refused(row, 1, 2, 0, bytes('0'), bytes(255), -2);
        refused(row, 0, 10, 0, bytes('r'), bytes('m'), -2);
        refused(row, 0, 2, 0, bytes('r'), xs(1999), -3);
        refused(row, 0, 2, 0, bytes('s'), join(xs(1998), bytes(255)), -3);
    }
}
