final class Promise12GraftTest extends Check {
    public static void main(String[] args) {
        sentence("Promise 12: a copy of node x of slot t; its kind and value are that one's", Promise12GraftTest::eachKind);
        sentence("Promise 12: with what is in it", Promise12GraftTest::whatIsInIt);
        sentence("Promise 12: as it was, also when it comes into itself", Promise12GraftTest::asItWas);
        sentence("Promise 12: node 0 goes as a document", Promise12GraftTest::node0);
        sentence("Promise 12: behind the others; its node", Promise12GraftTest::behind);
        sentence("Promise 12: likewise: the first n bytes of the tape are its name", Promise12GraftTest::itsName);
        sentence("Promise 12: likewise: of a row, n is 0 and its name the next number", Promise12GraftTest::nextNumber);
        sentence("Promise 12: likewise: the tape is empty then", Promise12GraftTest::tapeIsEmpty);
        sentence("Promise 12: likewise: -1 when there is no such slot (the tape stays)", Promise12GraftTest::noSlot);
        sentence("Promise 12: likewise: -1 when there is no such node (the tape stays)", Promise12GraftTest::noNode);
        sentence("Promise 12: likewise: -1 when it is neither document nor row (the tape stays)",
                Promise12GraftTest::noHolder);
        sentence("Promise 12: likewise: -1 when n is below 0 (the tape stays)", Promise12GraftTest::below0);
        sentence("Promise 12: likewise: -1 when n is more than there are (the tape stays)", Promise12GraftTest::tooMany);
        sentence("Promise 12: likewise: -2 when n is not as it may be", Promise12GraftTest::wrongN);
        sentence("Promise 12: likewise: -3 when the name is there already", Promise12GraftTest::nameIsThere);
        sentence("Promise 12: likewise: -3 when the name has a 0", Promise12GraftTest::nameHas0);
        sentence("Promise 12: likewise: -3 when the name is no right UTF-8", Promise12GraftTest::nameNoUtf8);
        sentence("Promise 12: likewise: -4 when it, or what is in it, would be too deep", Promise12GraftTest::tooDeep);
        sentence("Promise 12: likewise: -5 when the document would have more than 2,000 bytes",
                Promise12GraftTest::tooLong);
        sentence("Promise 12: likewise: -2, -3, -4, -5, in this order", Promise12GraftTest::theOrder);
        finish();
    }

    /** Nodes: 1 a, 2 b, 3 c, 4 d, 5 e, 6 f, 7 f's 0, 8 g, 9 g's p. */
    private static final byte[] ALL = document(whole("a", -5), longWhole("b", 1L << 40), truth("c", 1), nothing("d"),
            text("e", bytes('x', 0)), row("f", truth("0", 0)), inner("g", nothing("p")));
    private static final int NODES = 10;

    private static void eachKind() {
        Recorded x = with(ALL);
        int next = 1;
        for (int node : new int[] {1, 2, 3, 4, 5, 6, 8}) {
            due("graft " + node, x.feedAndGraft(3, 0, 0, node, bytes('A' + node)), next);
            next += node == 6 ? 2 : 1;
        }
        due("the copies", x.bytesOf(3), document(whole("B", -5), longWhole("C", 1L << 40), truth("D", 1), nothing("E"),
                text("F", bytes('x', 0)), row("G", truth("0", 0)), inner("I", nothing("p"))));
        due("the source", x.bytesOf(0), ALL);
        due("a copy's number", x.number(3, 1), -5);
    }

    private static void whatIsInIt() {
        byte[][] in = {nothing("p"), row("q", truth("0", 1), inner("1", text("t", xs(3))))};
        Recorded x = with(document(inner("d", in), inner("to"), nothing("z")));
        due("into another of the same slot", x.feedAndGraft(0, 7, 0, 1, utf8("copy")), 8);
        due("the slot", x.bytesOf(0), document(inner("d", in), inner("to", inner("copy", in)), nothing("z")));
        due("nodes", x.many(0, 1), 15);
        due("what comes behind", x.look(0, 14, 0), 10);
        due("into another slot", x.feedAndGraft(7, 0, 0, 1, EMPTY), 1);
        due("that slot", x.bytesOf(7), document(inner("", in)));
        // A copy is one of its own: neither follows the other.
        x.drop(0, 2);
        due("the copy stays", x.bytesOf(7), document(inner("", in)));
    }

    private static void asItWas() {
        byte[] all = document(inner("a", inner("b"), whole("n", 7)), nothing("z"));
        Recorded x = with(all);
        due("all into its innermost", x.feedAndGraft(0, 2, 0, 0, utf8("c")), 3);
        due("the slot", x.bytesOf(0), document(inner("a", inner("b", element(3, "c", all)), whole("n", 7)), nothing("z")));
        Recorded y = with(all);
        due("into itself", y.feedAndGraft(0, 1, 0, 1, utf8("c")), 4);
        due("the slot", y.bytesOf(0), document(inner("a", inner("b"), whole("n", 7),
                inner("c", inner("b"), whole("n", 7))), nothing("z")));
        Recorded z = with(document(row("r", nothing("0"))));
        due("a row into itself", z.graft(0, 1, 0, 1, 0), 3);
        due("the slot", z.bytesOf(0), document(row("r", nothing("0"), row("1", nothing("0")))));
        due("and again", z.graft(0, 1, 0, 1, 0), 5);
        due("the slot", z.bytesOf(0), document(row("r", nothing("0"), row("1", nothing("0")),
                row("2", nothing("0"), row("1", nothing("0"))))));
    }

    private static void node0() {
        Recorded x = with(ALL);
        due("into another slot", x.feedAndGraft(1, 0, 0, 0, utf8("n")), 1);
        due("that slot", x.bytesOf(1), document(element(3, "n", ALL)));
        due("one without elements", x.feedAndGraft(2, 0, 3, 0, EMPTY), 1);
        due("that slot", x.bytesOf(2), document(inner("")));
        due("into itself, without elements", x.graft(4, 0, 4, 0, 0), 1);
        due("that slot", x.bytesOf(4), document(inner("")));
    }

    private static void behind() {
        Recorded x = with(ALL);
        due("in an inner one", x.feedAndGraft(0, 8, 0, 1, utf8("q")), 10);
        due("in a row", x.graft(0, 6, 0, 4, 0), 8);
        due("in all", x.feedAndGraft(0, 0, 0, 3, utf8("q")), 12);
        due("the slot", x.bytesOf(0), document(whole("a", -5), longWhole("b", 1L << 40), truth("c", 1), nothing("d"),
                text("e", bytes('x', 0)), row("f", truth("0", 0), nothing("1")), inner("g", nothing("p"),
                whole("q", -5)), truth("q", 1)));
    }

    private static void itsName() {
        byte[][] names = {EMPTY, utf8("n"), utf8("\u00e9\u20ac\ud83d\ude00"), xs(20), xs(1980), xs(1993)};
        for (byte[] name : names) {
            Recorded x = with(document(nothing("d")));
            due("n " + name.length, x.feedAndGraft(1, 0, 0, 1, name), 1);
            due("the slot", x.bytesOf(1), document(element(10, name, EMPTY)));
        }
        Recorded x = with(document(nothing("d")));
        x.feedAll(utf8("nameandmore"));
        due("the first four", x.graft(1, 0, 0, 1, 4), 1);
        due("their element", x.bytesOf(1), document(nothing("name")));
    }

    private static void nextNumber() {
        Recorded x = with(document(row("r"), whole("long", 3)));
        byte[][] want = new byte[102][];
        for (int i = 0; i < want.length; i++) {
            want[i] = whole(String.valueOf(i), 3);
            due("graft " + i, x.graft(0, 1, 0, i + 2, 0), i + 2);
        }
        due("a row of 102", x.bytesOf(0), document(row("r", want), whole("long", 3)));
    }

    private static void tapeIsEmpty() {
        for (int n : new int[] {0, 1, 19, 20, 26}) {
            Recorded x = with(ALL);
            x.feedAll(utf8("zbcdefghijklmnopqrstuvwxyz"));
            due("n " + n, x.graft(0, 0, 0, 1, n), NODES);
            due("the tape", x.tapeCount(), 0);
        }
        Recorded row = with(ALL);
        row.feedAll(utf8("z"));
        due("in a row", row.graft(0, 6, 0, 1, 0), 8);
        due("the tape", row.tapeCount(), 0);
    }

    private static void staying(int s, int node, int t, int from, int n) {
        Recorded x = with(ALL);
        x.feedAll(utf8("y"));
        doesNothing("graft(" + s + ", " + node + ", " + t + ", " + from + ", " + n + ")", x,
                y -> y.graft(s, node, t, from, n), -1);
        due("the tape can still be used", x.graft(0, 0, 0, 1, 1), NODES);
    }

    private static void noSlot() {
        for (int s : NO_SLOTS) {
            staying(s, 0, 0, 0, 1);
            staying(0, 0, s, 0, 1);
            staying(s, 0, s, 0, 0);
        }
    }

    private static void noNode() {
        for (int node : new int[] {-1, NODES, NODES + 1, 700, Integer.MIN_VALUE, Integer.MAX_VALUE}) {
            staying(0, node, 0, 1, 1);
            staying(0, 0, 0, node, 1);
            staying(0, 6, 0, node, 0);
        }
        staying(0, 0, 1, 1, 1);
        staying(1, 1, 0, 1, 1);
        // An n that a row does not have, -2 elsewhere, comes behind.
        staying(0, 6, 0, 99, 1);
    }

    private static void noHolder() {
        for (int node : new int[] {1, 2, 3, 4, 5, 7, 9}) {
            staying(0, node, 0, 1, 1);
            staying(0, node, 0, node, 0);
        }
    }

    private static void below0() {
        for (int n : new int[] {-1, -20, Integer.MIN_VALUE}) {
            staying(0, 0, 0, 1, n);
            staying(0, 6, 0, 1, n);
        }
    }

    private static void tooMany() {
        for (int n : new int[] {21, 2001, Integer.MAX_VALUE}) {
            staying(0, 0, 0, 1, n);
            staying(0, 6, 0, 1, n);
        }
        doesNothing("1 of none", with(ALL), x -> x.graft(0, 0, 0, 1, 1), -1);
        Recorded full = with(ALL);
        full.feedAll(xs(2000));
        doesNothing("2,001 of 2,000", full, x -> x.graft(0, 0, 0, 1, 2001), -1);
        emptiesTheTape("2,000 of 2,000", full, x -> x.graft(0, 0, 0, 1, 2000), -5);
    }

    /** Slot 0 has `all`, slot 1 has `source`; refused with the tape empty afterwards and all slots as they were. */
    private static void refused(byte[] all, int node, byte[] source, int from, byte[] name, int want) {
        Recorded x = with(all);
        due("read", x.feedAndRead(1, source), 0);
        x.feedAll(name);
        emptiesTheTape("graft of " + from + " into " + node + ", n " + name.length, x,
                y -> y.graft(0, node, 1, from, name.length), want);
    }

    private static void wrongN() {
        for (int from = 0; from < NODES; from++) {
            refused(ALL, 6, ALL, from, utf8("1"), -2);
            refused(ALL, 6, ALL, from, xs(20), -2);
        }
    }

    private static void nameIsThere() {
        for (int from = 0; from < NODES; from++) {
            refused(ALL, 0, ALL, from, utf8("a"), -3);
            refused(ALL, 0, ALL, from, utf8("g"), -3);
            refused(ALL, 8, ALL, from, utf8("p"), -3);
        }
        refused(document(nothing("")), 0, ALL, 1, EMPTY, -3);
        // The name that it has where it comes from does not count.
        due("its old name", with(ALL).feedAndGraft(0, 0, 0, 1, utf8("a")), -3);
        due("another name", with(ALL).feedAndGraft(0, 0, 0, 1, utf8("p")), NODES);
        due("its old name in another", with(ALL).feedAndGraft(0, 8, 0, 1, utf8("a")), NODES);
    }

    private static void nameHas0() {
        byte[][] names = {bytes(0), bytes(0, 'y'), bytes('y', 0), bytes('y', 0, 'y'), new byte[20]};
        for (byte[] name : names) {
            refused(ALL, 0, ALL, 1, name, -3);
            refused(ALL, 8, ALL, 6, name, -3);
        }
    }

    private static void nameNoUtf8() {
        byte[][] names = {bytes(0x80), bytes(0xC0, 0x80), bytes(0xC3), bytes('y', 0xE2, 0x82), bytes(0xED, 0xA0, 0x80),
            bytes(0xF4, 0x90, 0x80, 0x80), bytes(0xFF), bytes(0xC3, 'y')};
        for (byte[] name : names) {
            refused(ALL, 0, ALL, 1, name, -3);
            refused(ALL, 8, ALL, 6, name, -3);
        }
        Recorded x = with(ALL);
        x.feedAll(bytes('y', 0xE2, 0x82, 0xAC));
        emptiesTheTape("n 3, in a letter that the tape goes on with", x, y -> y.graft(0, 0, 0, 1, 3), -3);
    }

    private static void tooDeep() {
        for (int height = 1; height <= 15; height++) {
            byte[] source = nested(height, nothing("a"));
            Recorded x = with(nested(16 - height));
            due("read", x.feedAndRead(1, source), 0);
            due(height + " levels in " + (16 - height), x.feedAndGraft(0, 15 - height, 1, 0, utf8("e")), 16 - height);
            due("depth", x.many(0, 2), 16);
            refused(nested(17 - height), 16 - height, source, 0, utf8("e"), -4);
        }
        refused(document(), 0, nested(16), 0, utf8("e"), -4);
        refused(nested(16), 15, document(row("r")), 1, utf8("e"), -4);
        refused(nested(15), 14, document(row("r", nothing("0"), row("1"), nothing("2"))), 1, utf8("e"), -4);
        Recorded x = with(nested(16));
        due("read", x.feedAndRead(1, document(whole("n", 1), inner("d", inner("d")))), 0);
        due("a number, ahead of what is deep", x.feedAndGraft(0, 15, 1, 1, utf8("n")), 16);
        due("what is in 15 of 16 levels", x.feedAndGraft(2, 0, 0, 1, EMPTY), 1);
        due("depth", x.many(2, 2), 16);
        due("into itself, 16 deep", with(nested(8)).feedAndGraft(0, 7, 0, 0, utf8("e")), 8);
        due("what is in it into itself, 17 deep", with(nested(9)).feedAndGraft(0, 8, 0, 1, utf8("e")), -4);
        due("into itself, 18 deep", with(nested(9)).feedAndGraft(0, 8, 0, 0, utf8("e")), -4);
    }

    private static void tooLong() {
        byte[] big = documentOf(994);
        Recorded x = with(documentOf(1000));
        due("read", x.feedAndRead(1, big), 0);
        due("2,000 bytes", x.feedAndGraft(0, 0, 1, 0, utf8("1234")), 2);
        due("the slot", x.bytesOf(0), document(text("t", xs(987)), element(3, "1234", big)));
        refused(documentOf(1000), 0, big, 0, utf8("12345"), -5);
        refused(documentOf(1001), 0, big, 0, utf8("1234"), -5);
        refused(document(), 0, documentOf(2000), 0, EMPTY, -5);
        refused(document(), 0, documentOf(1994), 0, EMPTY, -5);
        Recorded most = new Recorded();
        due("read", most.feedAndRead(1, documentOf(1993)), 0);
        due("1,993 in an empty one", most.graft(0, 0, 1, 0, 0), 1);
        due("2,000 bytes", most.many(0, 0), 2000);
        Recorded self = with(documentOf(2000));
        self.feedAll(utf8("9"));
        emptiesTheTape("all into itself", self, y -> y.graft(0, 0, 0, 0, 1), -5);
        for (int count : new int[] {9, 10, 99, 100}) {
            int length = 2 + String.valueOf(count).length();
            byte[] row = longRow("r", count);
            int letters = 2000 - length - 5 - row.length - 8 - 2;
            byte[] just = document(row, text("t", xs(letters)), nothing(""));
            byte[] over = document(row, text("t", xs(letters + 1)), nothing(""));
            due("just room in a row of " + count, with(just).graft(0, 1, 0, count + 3, 0), count + 2);
            due("a byte too few in a row of " + count, with(over).graft(0, 1, 0, count + 3, 0), -5);
        }
    }

    private static void theOrder() {
        byte[] deep = nested(16);
        refused(deep, 15, deep, 0, bytes(255), -3);
        refused(deep, 15, documentOf(1990), 0, utf8("e"), -4);
        refused(deep, 15, documentOf(1990), 1, utf8("e"), -5);
        refused(document(row("r")), 1, documentOf(1993), 0, bytes(255), -2);
        refused(document(nothing("a")), 0, documentOf(1993), 0, utf8("a"), -3);
    }
}
