final class Promise14DropTest extends Check {
    public static void main(String[] args) {
        sentence("Promise 14: an element goes: true", Promise14DropTest::goes);
        sentence("Promise 14: with what is in it", Promise14DropTest::whatIsInIt);
        sentence("Promise 14: the first, the last, and the only one", Promise14DropTest::firstAndLast);
        sentence("Promise 14: a row's names behind it become one less", Promise14DropTest::rows);
        sentence("Promise 14: a row's names become one less, also from 10 to 9 and from 100 to 99",
                Promise14DropTest::longRows);
        sentence("Promise 14: only that row's names become less", Promise14DropTest::rowsInRows);
        sentence("Promise 14: a document's names stay", Promise14DropTest::documentsNames);
        sentence("Promise 14: from the largest documents", Promise14DropTest::largest);
        sentence("Promise 14: false when there is none such: no slot", Promise14DropTest::noSlot);
        sentence("Promise 14: false when there is none such: no node", Promise14DropTest::noNode);
        sentence("Promise 14: false when it is node 0", Promise14DropTest::node0);
        finish();
    }

    private static void dropped(byte[] all, int node, byte[] wanted) {
        Recorded x = with(all);
        due("read", x.feedAndRead(1, all), 0);
        x.feedAll(utf8("stays"));
        due("drop(0, " + node + ")", x.drop(0, node), 1);
        due("the slot", x.bytesOf(0), wanted);
        due("another slot", x.bytesOf(1), all);
        due("the tape", x.tape(), join(utf8("stays"), new byte[15]));
    }

    private static void refused(byte[] all, int s, int node) {
        Recorded x = with(all);
        x.feedAll(utf8("stays"));
        doesNothing("drop(" + s + ", " + node + ")", x, y -> y.drop(s, node), 0);
    }

    private static void goes() {
        for (int kind : KINDS) {
            byte[] one = element(kind, "k", plainValue(kind));
            dropped(document(nothing("a"), one, nothing("b")), 2, document(nothing("a"), nothing("b")));
            dropped(document(inner("d", nothing("a"), one), nothing("b")), 3, document(inner("d", nothing("a")), nothing("b")));
        }
        dropped(document(text("a", xs(9)), nothing("b")), 1, document(nothing("b")));
    }

    private static void whatIsInIt() {
        byte[] deep = inner("d", row("r", inner("0", text("t", xs(4))), nothing("1")), whole("n", 1));
        dropped(document(nothing("a"), deep, nothing("b")), 2, document(nothing("a"), nothing("b")));
        dropped(document(nothing("a"), deep, nothing("b")), 3, document(nothing("a"), inner("d", whole("n", 1)), nothing("b")));
        Recorded x = with(document(deep));
        due("drop", x.drop(0, 1), 1);
        due("nodes", x.many(0, 1), 1);
        due("depth", x.many(0, 2), 1);
    }

    private static void firstAndLast() {
        byte[] three = document(whole("a", 1), whole("b", 2), whole("c", 3));
        dropped(three, 1, document(whole("b", 2), whole("c", 3)));
        dropped(three, 3, document(whole("a", 1), whole("b", 2)));
        dropped(document(whole("a", 1)), 1, document());
        dropped(document(row("r", whole("0", 1))), 2, document(row("r")));
        Recorded x = with(three);
        for (int left = 2; left >= 0; left--) {
            due("drop", x.drop(0, 1), 1);
            due("elements", x.look(0, 0, 7), left);
        }
        due("none is left", x.drop(0, 1), 0);
        due("the slot", x.bytesOf(0), document());
        due("one can come again", x.feedAndAdd(0, 10, 0, utf8("a"), EMPTY), 1);
    }

    private static void rows() {
        byte[] all = document(row("r", whole("0", 10), whole("1", 11), whole("2", 12)), whole("2", 5));
        dropped(all, 2, document(row("r", whole("0", 11), whole("1", 12)), whole("2", 5)));
        dropped(all, 3, document(row("r", whole("0", 10), whole("1", 12)), whole("2", 5)));
        dropped(all, 4, document(row("r", whole("0", 10), whole("1", 11)), whole("2", 5)));
        Recorded x = with(all);
        due("drop", x.drop(0, 3), 1);
        due("the next name", x.add(0, 1, 10, 0, 0, 0), 4);
        due("the slot", x.bytesOf(0), document(row("r", whole("0", 10), whole("1", 12), nothing("2")), whole("2", 5)));
        due("its node by its name", x.feedAndFind(0, 1, utf8("1")), 3);
    }

    private static byte[] rowWithout(int count, int dropped) {
        byte[][] elements = new byte[count - (dropped < 0 ? 0 : 1)][];
        for (int i = 0; i < elements.length; i++) {
            elements[i] = whole(String.valueOf(i), dropped < 0 || i < dropped ? i : i + 1);
        }
        return document(row("p", row("0", elements), truth("1", 1)), nothing("z"));
    }

    private static void longRows() {
        for (int count : new int[] {9, 10, 11, 12, 99, 100, 101, 103}) {
            for (int dropped : new int[] {0, 5, 8, 9, 10, 11, 97, 98, 99, 100, 102}) {
                if (dropped < count) {
                    dropped(rowWithout(count, -1), dropped + 3, rowWithout(count, dropped));
                }
            }
        }
    }

    private static void rowsInRows() {
        byte[] in = document(nothing("0"), row("1", truth("0", 1)));
        byte[] all = document(row("r", element(4, "0", in), element(4, "1", in), element(3, "2", in)), row("s", nothing("0")));
        dropped(all, 2, document(row("r", element(4, "0", in), element(3, "1", in)), row("s", nothing("0"))));
        dropped(all, 3, document(row("r", row("0", row("0", truth("0", 1))), element(4, "1", in), element(3, "2", in)),
                row("s", nothing("0"))));
        byte[][] twelve = new byte[12][];
        byte[][] eleven = new byte[11][];
        for (int i = 0; i < 12; i++) {
            twelve[i] = element(i % 2 == 0 ? 4 : 3, String.valueOf(i), in);
            if (i > 0) {
                eleven[i - 1] = element(i % 2 == 0 ? 4 : 3, String.valueOf(i - 1), in);
            }
        }
        dropped(document(row("r", twelve)), 2, document(row("r", eleven)));
    }

    private static void documentsNames() {
        dropped(document(nothing("0"), nothing("1"), nothing("2")), 1, document(nothing("1"), nothing("2")));
        dropped(document(row("r", inner("0", nothing("0"), nothing("1")))), 3, document(row("r", inner("0", nothing("1")))));
    }

    private static void largest() {
        dropped(documentOf(2000), 1, document());
        dropped(nested(16), 15, nested(15));
        dropped(nested(16, nothing("a")), 16, nested(16));
        byte[][] most = new byte[419][];
        byte[][] less = new byte[418][];
        for (int i = 0; i < most.length; i++) {
            most[i] = nothing(String.valueOf(i));
            if (i > 0) {
                less[i - 1] = nothing(String.valueOf(i - 1));
            }
        }
        dropped(document(row("", most)), 2, document(row("", less)));
        Recorded crowd = with(crowd());
        due("the last of many", crowd.drop(0, 646), 1);
        due("nodes", crowd.many(0, 1), 646);
        due("many at once", crowd.drop(0, 2), 1);
        due("nodes", crowd.many(0, 1), 646 - 129);
    }

    private static void noSlot() {
        for (int s : NO_SLOTS) {
            refused(document(nothing("a")), s, 1);
            refused(document(nothing("a")), s, 0);
        }
    }

    private static void noNode() {
        for (int node : new int[] {-1, 2, 3, 700, Integer.MIN_VALUE, Integer.MAX_VALUE}) {
            refused(document(nothing("a")), 0, node);
        }
        refused(document(nothing("a")), 1, 1);
        refused(document(), 0, 1);
    }

    private static void node0() {
        refused(document(), 0, 0);
        refused(document(nothing("a")), 0, 0);
        refused(document(nothing("a")), 1, 0);
        refused(document(row("r", nothing("0"), nothing("1"))), 0, 0);
    }
}
