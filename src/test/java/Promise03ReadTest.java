/** What read() answers, and of each fault its place (promise 4 tests place() beyond that). */
final class Promise03ReadTest {
    public static void main(String[] args) {
        rightDocuments();
        wrongArguments();
        aFaultLeavesTheSlotAndEmptiesTheTape();
        faultsAtTheSizeOfAll();
        faultsAtTheSizeOfAnInnerOne();
        faultsWhereAnElementHasToBe();
        faultsAtNames();
        faultsAtRowNames();
        faultsAtNumbersAndTruths();
        faultsAtTexts();
        depth();
        theFirstFaultCounts();
        Check.finish();
    }

    private static void refused(String what, byte[] all, int fault, int place) {
        DocumentBytes x = new DocumentBytes();
        Check.due(what + ": read", Check.read(x, 0, all), fault);
        Check.due(what + ": place", x.place(), place);
        Check.dueBytes(what + ": the slot", x, 0, Check.bytes(5, 0, 0, 0, 0));
    }

    private static void accepted(String what, byte[] all) {
        DocumentBytes x = new DocumentBytes();
        Check.due(what + ": read", Check.read(x, 7, all), 0);
        Check.due(what + ": place", x.place(), -1);
        Check.dueBytes(what, x, 7, all);
    }

    private static void rightDocuments() {
        accepted("no elements", Check.document());
        accepted("each kind", Check.document(Check.whole("a", -1), Check.longWhole("b", Long.MIN_VALUE),
                Check.truth("c", 0), Check.truth("d", 1), Check.nothing("e"), Check.text("f", Check.xs(3)),
                Check.element(3, "g", Check.document(Check.nothing("a"))),
                Check.element(4, "h", Check.document(Check.nothing("0"), Check.truth("1", 1)))));
        accepted("a name without bytes", Check.document(Check.nothing("")));
        accepted("a text without letters", Check.document(Check.text("a", Check.bytes())));
        accepted("a text of zeros", Check.document(Check.text("a", Check.bytes(0, 0, 0))));
        accepted("2000 bytes", Check.documentOf(2000));
        accepted("the same name in another document",
                Check.document(Check.nothing("a"), Check.element(3, "b", Check.document(Check.nothing("a")))));
        accepted("most nodes of a document", crowd());
        byte[][] letters = {{0x7F}, Check.bytes(0xC2, 0x80), Check.bytes(0xDF, 0xBF), Check.bytes(0xE0, 0xA0, 0x80),
            Check.bytes(0xED, 0x9F, 0xBF), Check.bytes(0xEE, 0x80, 0x80), Check.bytes(0xEF, 0xBF, 0xBF),
            Check.bytes(0xF0, 0x90, 0x80, 0x80), Check.bytes(0xF4, 0x8F, 0xBF, 0xBF)};
        for (byte[] letter : letters) {
            accepted("a letter as name", Check.document(Check.element(10, letter, Check.bytes())));
            accepted("a letter as text", Check.document(Check.text("", letter)));
        }
        byte[][] row = new byte[101][];
        for (int i = 0; i < row.length; i++) {
            row[i] = Check.nothing(String.valueOf(i));
        }
        accepted("a row of 101", Check.document(Check.element(4, "", Check.document(row))));
    }

    /** Documents of 128 elements without values, with names of at most one byte, in a row. */
    private static byte[] crowd() {
        byte[][] inner = new byte[128][];
        inner[0] = Check.nothing("");
        for (int i = 1; i < 128; i++) {
            inner[i] = Check.element(10, Check.bytes(i), Check.bytes());
        }
        byte[] full = Check.document(inner);
        byte[][] row = new byte[5][];
        for (int i = 0; i < row.length; i++) {
            row[i] = Check.element(3, String.valueOf(i), full);
        }
        return Check.document(Check.element(4, "", Check.document(row)));
    }

    private static void wrongArguments() {
        DocumentBytes x = new DocumentBytes();
        Check.feed(x, Check.document());
        int[][] wrong = {{-1, 5}, {8, 5}, {Integer.MIN_VALUE, 5}, {Integer.MAX_VALUE, 5}, {0, -1}, {0, 21},
            {0, Integer.MIN_VALUE}, {0, Integer.MAX_VALUE}};
        for (int[] w : wrong) {
            Check.due("read(" + w[0] + ", " + w[1] + ")", x.read(w[0], w[1]), -1);
        }
        Check.due("the tape is still there", x.read(7, 5), 0);
        Check.due("the tape is empty", x.read(7, 1), -1);
    }

    private static void aFaultLeavesTheSlotAndEmptiesTheTape() {
        byte[] old = Check.document(Check.whole("a", 7));
        DocumentBytes x = Check.with(old);
        Check.due("read", Check.read(x, 0, Check.bytes(4, 0, 0, 0, 0)), 2);
        Check.dueTape("after a fault", x, 0);
        Check.dueBytes("after a fault", x, 0, old);
        Check.due("number after a fault", x.number(0, 1), 7);
        x.read(1, 0);
        Check.due("read", Check.read(x, 0, Check.document()), 0);
        Check.dueTape("after none", x, 0);
        Check.due("nodes", x.many(0, 1), 1);
    }

    private static void faultsAtTheSizeOfAll() {
        refused("no bytes", Check.bytes(), 1, 0);
        refused("3 bytes", Check.bytes(3, 0, 0), 1, 0);
        refused("SIZE 4 of 4", Check.bytes(4, 0, 0, 0), 2, 0);
        refused("SIZE 5 of 4", Check.bytes(5, 0, 0, 0), 1, 0);
        refused("SIZE 0 of 5", Check.bytes(0, 0, 0, 0, 0), 2, 0);
        refused("SIZE 5 of 6", Check.bytes(5, 0, 0, 0, 0, 0), 2, 0);
        refused("SIZE 6 of 5", Check.bytes(6, 0, 0, 0, 0), 1, 0);
        refused("SIZE without sign", Check.bytes(5, 0, 0, 128, 0), 1, 0);
        refused("SIZE of all ones", Check.bytes(255, 255, 255, 255, 0), 1, 0);
    }

    private static void faultsAtTheSizeOfAnInnerOne() {
        for (int kind = 3; kind <= 4; kind++) {
            refused("no SIZE", Check.document(Check.element(kind, "a", Check.bytes())), 1, 7);
            refused("3 bytes of SIZE", Check.document(Check.element(kind, "a", Check.bytes(5, 0, 0))), 1, 7);
            refused("SIZE 4", Check.document(Check.element(kind, "a", Check.bytes(4, 0, 0, 0))), 2, 7);
            refused("SIZE 5 of 4", Check.document(Check.element(kind, "a", Check.bytes(5, 0, 0, 0))), 1, 7);
            refused("SIZE 4 of 5", Check.document(Check.element(kind, "a", Check.bytes(4, 0, 0, 0, 0))), 2, 7);
            refused("SIZE 6 of 5", Check.document(Check.element(kind, "a", Check.bytes(6, 0, 0, 0, 0))), 1, 7);
            refused("SIZE without sign", Check.document(Check.element(kind, "a", Check.bytes(5, 0, 0, 128, 0))), 1, 7);
            refused("SIZE 5 of 6", Check.document(Check.element(kind, "a", Check.bytes(5, 0, 0, 0, 0, 0))), 2, 12);
        }
    }

    private static void faultsWhereAnElementHasToBe() {
        refused("the last byte", Check.bytes(5, 0, 0, 0, 1), 2, 4);
        refused("the last byte is a kind", Check.bytes(5, 0, 0, 0, 10), 2, 4);
        refused("a byte 0 ahead of the last", Check.bytes(6, 0, 0, 0, 0, 0), 2, 4);
        refused("a byte 0 behind an element", Check.document(Check.nothing("a"), Check.bytes(0)), 2, 7);
        refused("the last byte of an inner one", Check.document(Check.element(3, "a", Check.bytes(5, 0, 0, 0, 9))), 2, 11);
        refused("the last byte behind an inner one",
                Check.join(Check.bytes(13, 0, 0, 0), Check.element(3, "a", Check.document()), Check.bytes(3)), 2, 12);
        for (int kind = 1; kind < 256; kind++) {
            boolean none = kind != 16 && kind != 18 && kind != 8 && kind != 10 && (kind < 2 || kind > 4);
            byte[] all = Check.document(Check.bytes(kind));
            refused("kind " + kind, all, none ? 3 : 1, none ? 4 : 5);
        }
    }

    private static void faultsAtNames() {
        refused("no 0 behind the name", Check.document(Check.bytes(10, 'a', 'b')), 1, 5);
        refused("a 0 just at the last byte of an inner one",
                Check.document(Check.element(3, "", Check.document(Check.bytes(10, 'a'))), Check.nothing("b")), 1, 11);
        refused("no 0 comes ahead of no UTF-8", Check.document(Check.bytes(10, 255)), 1, 5);
        byte[][] wrong = {Check.bytes(0x80), Check.bytes(0xBF), Check.bytes(0xC0, 0x80), Check.bytes(0xC1, 0xBF),
            Check.bytes(0xC2), Check.bytes(0xC2, 'a'), Check.bytes(0xC2, 0xC0), Check.bytes(0xE0, 0x9F, 0xBF),
            Check.bytes(0xE1, 0x80), Check.bytes(0xE1, 0x80, 'a'), Check.bytes(0xED, 0xA0, 0x80),
            Check.bytes(0xED, 0xBF, 0xBF), Check.bytes(0xF0, 0x8F, 0xBF, 0xBF), Check.bytes(0xF1, 0x80, 0x80),
            Check.bytes(0xF1, 0x80, 0x80, 0xC0), Check.bytes(0xF4, 0x90, 0x80, 0x80),
            Check.bytes(0xF5, 0x80, 0x80, 0x80), Check.bytes(0xFF)};
        for (byte[] w : wrong) {
            byte[] behind = Check.join(Check.bytes('a', 0xC3, 0xA4), w);
            refused("no UTF-8 at once", Check.document(Check.element(10, w, Check.bytes())), 4, 5);
            refused("no UTF-8 in a name", Check.document(Check.element(10, behind, Check.bytes())), 4, 8);
            refused("no UTF-8 in a text", Check.document(Check.text("a", behind)), 4, 14);
            refused("no UTF-8 ahead of a letter", Check.document(Check.text("a", Check.join(w, Check.xs(4)))), 4, 11);
        }
        refused("a name twice", Check.document(Check.nothing("a"), Check.nothing("b"), Check.whole("a", 1)), 7, 11);
        refused("no name twice", Check.document(Check.nothing(""), Check.nothing("")), 7, 7);
        refused("a name again behind a document", Check.document(Check.nothing("a"),
                Check.element(3, "b", Check.document(Check.nothing("c"))), Check.nothing("a")), 7, 19);
        refused("the name of the document before", Check.document(Check.element(3, "b", Check.document()),
                Check.nothing("b")), 7, 13);
        accepted("longer names", Check.document(Check.nothing("a"), Check.nothing("ab"), Check.nothing("b"),
                Check.nothing("")));
    }

    private static void faultsAtRowNames() {
        String[] wrong = {"", "1", "00", "a", "-0", "0 ", "+0", ":", "/"};
        for (String name : wrong) {
            refused("first name " + name, Check.document(Check.element(4, "", Check.document(Check.nothing(name)))), 7, 11);
        }
        String[] second = {"0", "2", "01", "", "11"};
        for (String name : second) {
            byte[] row = Check.document(Check.nothing("0"), Check.nothing(name));
            refused("second name " + name, Check.document(Check.element(4, "", row)), 7, 14);
        }
        byte[][] eleven = new byte[11][];
        for (int i = 0; i < 10; i++) {
            eleven[i] = Check.nothing(String.valueOf(i));
        }
        for (String name : new String[] {"0", "1", "11", "010", "100", ":"}) {
            eleven[10] = Check.nothing(name);
            refused("name 10 is " + name, Check.document(Check.element(4, "", Check.document(eleven))), 7, 41);
        }
        accepted("rows in rows", Check.document(Check.element(4, "0", Check.document(
                Check.element(4, "0", Check.document(Check.nothing("0"))), Check.element(3, "1", Check.document(
                Check.nothing("5"))), Check.nothing("2")))));
    }

    private static void faultsAtNumbersAndTruths() {
        refused("3 bytes of 4", Check.document(Check.element(16, "a", Check.bytes(0, 0, 0))), 1, 7);
        refused("no byte of 4", Check.document(Check.element(16, "a", Check.bytes())), 1, 7);
        refused("7 bytes of 8", Check.document(Check.element(18, "a", Check.bytes(0, 0, 0, 0, 0, 0, 0))), 1, 7);
        refused("no truth", Check.document(Check.element(8, "a", Check.bytes())), 1, 7);
        refused("truth 2", Check.document(Check.truth("a", 2)), 5, 7);
        refused("truth 255", Check.document(Check.truth("a", 255)), 5, 7);
        refused("3 bytes of 4 in an inner one", Check.document(Check.element(3, "", Check.document(
                Check.element(16, "a", Check.bytes(0, 0, 0)))), Check.nothing("b")), 1, 13);
    }

    private static void faultsAtTexts() {
        refused("3 bytes of n", Check.document(Check.element(2, "a", Check.bytes(1, 0, 0))), 1, 7);
        refused("n is 0", Check.document(Check.element(2, "a", Check.bytes(0, 0, 0, 0))), 6, 7);
        refused("no bytes for n", Check.document(Check.element(2, "a", Check.bytes(1, 0, 0, 0))), 1, 7);
        refused("fewer than n", Check.document(Check.element(2, "a", Check.bytes(3, 0, 0, 0, 'x', 0))), 1, 7);
        refused("n without sign", Check.document(Check.element(2, "a", Check.bytes(1, 0, 0, 128, 0))), 1, 7);
        refused("n of all ones", Check.document(Check.element(2, "a", Check.bytes(255, 255, 255, 255, 0))), 1, 7);
        refused("its last byte", Check.document(Check.element(2, "a", Check.bytes(3, 0, 0, 0, 'x', 'y', 'z'))), 6, 13);
        refused("its last byte comes ahead of no UTF-8",
                Check.document(Check.element(2, "a", Check.bytes(3, 0, 0, 0, 255, 'y', 'z'))), 6, 13);
        refused("a letter cut off by the 0", Check.document(Check.text("a", Check.bytes('x', 0xE2, 0x82))), 4, 12);
    }

    private static void depth() {
        accepted("16 deep", Check.nested(16, Check.nothing("a")));
        refused("17 deep", Check.nested(17), 8, 4 + 15 * 7 + 3);
        byte[] rows = Check.document();
        for (int i = 1; i < 16; i++) {
            rows = Check.document(Check.element(4, "0", rows));
        }
        accepted("rows 16 deep", rows);
        byte[] short17 = Check.nested(16, Check.element(3, "d", Check.bytes(4, 0, 0, 0, 0)));
        refused("a SIZE too small comes ahead of too deep", short17, 2, 4 + 15 * 7 + 3);
        byte[] long17 = Check.nested(16, Check.element(4, "d", Check.bytes(6, 0, 0, 0, 0)));
        refused("a SIZE too large comes ahead of too deep", long17, 1, 4 + 15 * 7 + 3);
    }

    private static void theFirstFaultCounts() {
        byte[] first = Check.truth("a", 3);
        byte[] second = Check.nothing("a");
        refused("a truth ahead of a name", Check.document(first, second), 5, 7);
        refused("a kind ahead of the last byte", Check.join(Check.bytes(6, 0, 0, 0), Check.bytes(5, 1)), 3, 4);
        refused("no UTF-8 ahead of the name that is there",
                Check.document(Check.nothing("a"), Check.element(10, Check.bytes('a', 255), Check.bytes())), 4, 9);
    }
}
