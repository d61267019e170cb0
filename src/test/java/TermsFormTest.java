/** What a document, an element, a value, a name and a node are, at the bounds that the Terms name. */
final class TermsFormTest extends Check {
    public static void main(String[] args) {
        sentence("Terms: numbers have their lowest byte first", TermsFormTest::lowestFirst);
        sentence("Terms: SIZE and n have no sign", TermsFormTest::noSign);
        sentence("Terms: SIZE counts its own four bytes and the last one", TermsFormTest::size);
        sentence("Terms: a NAME has bytes other than 0, and may have none", TermsFormTest::names);
        sentence("Terms: 16 a whole number of 32 bits, with sign", TermsFormTest::of32Bits);
        sentence("Terms: 18 one of 64 bits, with sign", TermsFormTest::of64Bits);
        sentence("Terms: 8 a TRUTH, a byte 0 or 1", TermsFormTest::truths);
        sentence("Terms: 10 NOTHING, without bytes", TermsFormTest::nothings);
        sentence("Terms: 2 a TEXT: n - 1 bytes (any, also 0), a byte 0", TermsFormTest::texts);
        sentence("Terms: 3 a DOCUMENT; 4 a ROW, which has the form of a document", TermsFormTest::innerOnes);
        sentence("Terms: a row's names are 0, 1, 2, .. in order, as decimal digits", TermsFormTest::rowNames);
        sentence("Terms: names of one document differ", TermsFormTest::namesDiffer);
        sentence("Terms: a document has at most 2,000 bytes", TermsFormTest::mostBytes);
        sentence("Terms: documents and rows are at most 16 DEEP", TermsFormTest::mostDeep);
        sentence("Terms: the document of a slot is 1 deep, those in it 2", TermsFormTest::depths);
        sentence("Terms: NODES are the document, 0, and all elements, from 1 on in the order of their bytes",
                TermsFormTest::nodes);
        finish();
    }

    private static Recorded accepted(String what, byte[] all) {
        Recorded x = new Recorded();
        due(what + ": read", x.feedAndRead(7, all), 0);
        due(what + ": place", x.place(), -1);
        due(what + ": the slot", x.bytesOf(7), all);
        return x;
    }

    private static void refused(String what, byte[] all, int fault, int place) {
        Recorded x = new Recorded();
        due(what + ": read", x.feedAndRead(7, all), fault);
        due(what + ": place", x.place(), place);
        due(what + ": the slot", x.bytesOf(7), document());
    }

    private static void lowestFirst() {
        byte[] all = document(element(16, "a", bytes(1, 2, 3, 4)), element(18, "b", bytes(1, 2, 3, 4, 5, 6, 7, 8)),
                text("c", xs(300)));
        Recorded x = accepted("numbers", all);
        due("32 bits", x.number(7, 1), 0x04030201L);
        due("64 bits", x.number(7, 2), 0x0807060504030201L);
        due("a text's n of 301", x.look(7, 3, 6), 300);
        due("the SIZE's lowest byte", x.byteAt(7, 0), all.length % 256);
        due("the SIZE's next byte", x.byteAt(7, 1), all.length / 256);
        refused("a SIZE of 5 with its highest byte first", bytes(0, 0, 0, 5, 0), 1, 0);
    }

    private static void noSign() {
        refused("a SIZE of 2^31 is too large, not below 5", bytes(0, 0, 0, 128, 0), 1, 0);
        refused("a SIZE of 2^32 - 1", bytes(255, 255, 255, 255, 0), 1, 0);
        refused("an inner SIZE of 2^31", document(element(3, "", bytes(0, 0, 0, 128, 0))), 1, 6);
        refused("a row's SIZE of 2^32 - 1", document(element(4, "", bytes(255, 255, 255, 255, 0))), 1, 6);
        refused("an n of 2^31 is too large, not below 1", document(element(2, "", bytes(0, 0, 0, 128, 0))), 1, 6);
        refused("an n of 2^32 - 1", document(element(2, "", bytes(255, 255, 255, 255, 0))), 1, 6);
        refused("an n of 2^32 - 4, which with 4 would be 0", document(element(2, "", bytes(252, 255, 255, 255, 0))), 1, 6);
        refused("an n of 2^31 - 1, which with 4 would be below 0",
                document(element(2, "", bytes(255, 255, 255, 127, 0))), 1, 6);
    }

    private static void size() {
        accepted("the smallest document", bytes(5, 0, 0, 0, 0));
        accepted("7 bytes, one element", bytes(7, 0, 0, 0, 10, 0, 0));
        accepted("255 bytes", documentOf(255));
        accepted("256 bytes", documentOf(256));
        accepted("257 bytes", documentOf(257));
        refused("without its own four", bytes(1, 0, 0, 0, 0), 2, 0);
        refused("without the last one", bytes(4, 0, 0, 0, 0), 2, 0);
    }

    private static void names() {
        for (int kind : KINDS) {
            accepted("no name, kind " + kind, document(element(kind, "", plainValue(kind))));
        }
        accepted("the lowest byte that is not 0", document(element(10, bytes(1), EMPTY)));
        Recorded x = accepted("the longest name", document(element(10, xs(1993), EMPTY)));
        due("its bytes", x.look(7, 1, 4), 1993);
        due("its last one", x.letter(7, 1, false, 1992), 'x');
        due("behind it", x.letter(7, 1, false, 1993), -1);
        // A 0 ends the name, so that what was meant as the rest of it is the value.
        Recorded cut = accepted("a 0 ends a name", document(bytes(16, 'a', 0, 'b', 1, 2, 3)));
        due("its name", cut.look(7, 1, 4), 1);
        due("its value", cut.number(7, 1), 0x03020100L + 'b');
    }

    private static void of32Bits() {
        int[] values = {0, 1, -1, 127, 128, 255, 256, 65535, 65536, Integer.MAX_VALUE, Integer.MIN_VALUE};
        for (int v : values) {
            Recorded x = accepted("32 bits: " + v, document(whole("n", v)));
            due("number " + v, x.number(7, 1), v);
        }
    }

    private static void of64Bits() {
        long[] values = {0, 1, -1, 2147483647L, 2147483648L, -2147483648L, -2147483649L, 4294967295L, 4294967296L,
            Long.MAX_VALUE, Long.MIN_VALUE};
        for (long v : values) {
            Recorded x = accepted("64 bits: " + v, document(longWhole("n", v)));
            due("number " + v, x.number(7, 1), v);
        }
    }

    private static void truths() {
        for (int v = 0; v < 256; v++) {
            if (v < 2) {
                due("truth " + v, accepted("truth " + v, document(truth("t", v))).number(7, 1), v);
            } else {
                refused("truth " + v, document(truth("t", v)), 5, 7);
            }
        }
    }

    private static void nothings() {
        due("its value's bytes", accepted("nothing", document(nothing("a"))).look(7, 1, 5), 0);
        refused("a byte 0 as its value", document(element(10, "a", bytes(0))), 2, 7);
        due("another element at once", accepted("two", document(nothing("a"), nothing("b"))).many(7, 1), 3);
    }

    private static void texts() {
        Recorded none = accepted("n is 1", document(text("", EMPTY)));
        due("no letters", none.look(7, 1, 6), 0);
        due("five bytes", none.look(7, 1, 5), 5);
        Recorded zeros = accepted("all 0", document(text("", bytes(0, 0, 0))));
        due("three letters", zeros.look(7, 1, 6), 3);
        due("a letter 0", zeros.letter(7, 1, true, 2), 0);
        Recorded longest = accepted("the longest", document(text("", xs(1988))));
        due("1988 letters", longest.look(7, 1, 6), 1988);
        due("the last one", longest.letter(7, 1, true, 1987), 'x');
        due("behind it", longest.letter(7, 1, true, 1988), -1);
    }

    private static void innerOnes() {
        for (int kind = 3; kind <= 4; kind++) {
            Recorded x = accepted("without elements", document(element(kind, "", document())));
            due("kind", x.look(7, 1, 0), kind);
            due("five bytes", x.look(7, 1, 5), 5);
            due("elements", x.look(7, 1, 7), 0);
        }
    }

    private static void rowNames() {
        for (int count : new int[] {0, 1, 9, 10, 11, 12, 99, 100, 101, 102}) {
            Recorded x = accepted("a row of " + count, document(longRow("r", count)));
            due("its elements", x.look(7, 1, 7), count);
        }
        byte[][] most = new byte[419][];
        for (int i = 0; i < most.length; i++) {
            most[i] = nothing(String.valueOf(i));
        }
        Recorded x = accepted("as many as 2,000 bytes hold", document(row("", most)));
        due("its elements", x.look(7, 1, 7), 419);
        due("the last one's name", x.feedAndFind(7, 1, utf8("418")), 420);
    }

    private static void namesDiffer() {
        accepted("longer, shorter and other names", document(nothing("a"), nothing("ab"), nothing(""), nothing("A"),
                nothing("b"), nothing("aa"), element(10, bytes(0xC3, 0xA4), EMPTY)));
        accepted("one name in two documents",
                document(nothing("a"), inner("b", nothing("a"), inner("b", nothing("b"))), inner("c", nothing("a"))));
        refused("the same name twice", document(nothing("a"), nothing("a")), 7, 8);
        refused("no name twice", document(nothing(""), nothing("")), 7, 7);
    }

    private static void mostBytes() {
        due("1,999 bytes", accepted("1,999 bytes", documentOf(1999)).many(7, 0), 1999);
        due("2,000 bytes", accepted("2,000 bytes", documentOf(2000)).many(7, 0), 2000);
        Recorded crowd = accepted("a crowd", crowd());
        due("its nodes", crowd.many(7, 1), 2 + 5 * 129);
        due("the last one's name", crowd.letter(7, 646, false, 0), 127);
        Recorded full = with(documentOf(2000));
        due("one byte more is refused", full.add(0, 0, 10, 0, 0, 0), -5);
    }

    private static byte[] tower(int depth, int oddKind, int evenKind) {
        byte[] result = document();
        for (int i = depth; i > 1; i--) {
            result = document(element(i % 2 == 0 ? evenKind : oddKind, "0", result));
        }
        return result;
    }

    private static void mostDeep() {
        int[][] kinds = {{3, 3}, {4, 4}, {3, 4}, {4, 3}};
        for (int[] k : kinds) {
            Recorded x = accepted("16 deep", tower(16, k[0], k[1]));
            due("depth", x.many(7, 2), 16);
            // Each level has its SIZE, and a kind, a name of one byte and a 0 behind that.
            refused("17 deep", tower(17, k[0], k[1]), 8, 16 * 7);
        }
        accepted("an element in what is 16 deep", nested(16, whole("n", 1), text("t", xs(3))));
        accepted("two that are 16 deep", nested(15, inner("a"), row("b"), nothing("c")));
        refused("the second of two is too deep", nested(15, inner("a"), row("b", inner("0"))), 8, 14 * 7 + 4 + 8 + 7 + 3);
    }

    private static void depths() {
        Recorded x = accepted("three levels", document(nothing("a"), inner("b", row("c", nothing("0")))));
        int[] want = {1, 1, 2, 3, 3};
        for (int node = 0; node < want.length; node++) {
            due("depth of node " + node, x.look(7, node, 8), want[node]);
        }
    }

    private static void nodes() {
        Recorded x = accepted("seven nodes", document(whole("a", 1),
                inner("b", truth("c", 1), row("d", longWhole("0", 2)), nothing("e")), text("f", EMPTY)));
        int[] kinds = {3, 16, 3, 8, 4, 18, 10, 2};
        due("nodes", x.many(7, 1), kinds.length);
        for (int node = 0; node < kinds.length; node++) {
            due("kind of node " + node, x.look(7, node, 0), kinds[node]);
        }
        due("none behind the last", x.look(7, kinds.length, 0), -1);
        due("none ahead of the first", x.look(7, -1, 0), -1);
    }
}
