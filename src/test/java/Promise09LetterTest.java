final class Promise09LetterTest extends Check {
    private static final byte[] ALL = document(text("\u00e97", bytes('a', 0, 0xC3, 0xBF)), whole("", 77),
            row("r", text("0", EMPTY)), inner("d", nothing("\udbff\udfff")));

    public static void main(String[] args) {
        sentence("Promise 9: byte i of a node's name (text false)", Promise09LetterTest::names);
        sentence("Promise 9: byte i of a node's text (text true)", Promise09LetterTest::texts);
        sentence("Promise 9: 0 to 255", Promise09LetterTest::withoutSign);
        sentence("Promise 9: -1 when there is none: no such byte", Promise09LetterTest::noByte);
        sentence("Promise 9: -1 when there is none: no text, as of other kinds", Promise09LetterTest::noText);
        sentence("Promise 9: -1 when there is none: no name, as of node 0", Promise09LetterTest::noName);
        sentence("Promise 9: -1 when there is none: no such node", Promise09LetterTest::noNode);
        sentence("Promise 9: -1 when there is none: no such slot", Promise09LetterTest::noSlot);
        sentence("Promise 9: of the longest name and the longest text", Promise09LetterTest::longest);
        finish();
    }

    private static void letters(Recorded x, int node, boolean text, int... want) {
        for (int i = 0; i < want.length; i++) {
            due("letter(0, " + node + ", " + text + ", " + i + ")", x.letter(0, node, text, i), want[i]);
        }
        for (int i : new int[] {-1, -2, want.length, want.length + 1, Integer.MIN_VALUE, Integer.MAX_VALUE}) {
            due("letter(0, " + node + ", " + text + ", " + i + ")", x.letter(0, node, text, i), -1);
        }
    }

    private static void names() {
        Recorded x = with(ALL);
        letters(x, 1, false, 0xC3, 0xA9, '7');
        letters(x, 2, false);
        letters(x, 3, false, 'r');
        letters(x, 4, false, '0');
        letters(x, 5, false, 'd');
        letters(x, 6, false, 0xF4, 0x8F, 0xBF, 0xBF);
    }

    private static void texts() {
        letters(with(ALL), 1, true, 'a', 0, 0xC3, 0xBF);
        letters(with(ALL), 4, true);
    }

    private static void withoutSign() {
        byte[] most = bytes(0, 1, 0x7F, 0xC2, 0x80, 0xDF, 0xBF, 0xED, 0x9F, 0xBF, 0xEF, 0xBF, 0xBF, 0xF4, 0x8F, 0xBF, 0xBF);
        Recorded x = with(document(text("", most)));
        for (int i = 0; i < most.length; i++) {
            due("letter " + i, x.letter(0, 1, true, i), most[i] & 255);
        }
    }

    private static void noByte() {
        for (int i : new int[] {-1, 4, 5, 100, 2000, Integer.MIN_VALUE, Integer.MAX_VALUE}) {
            doesNothing("text byte " + i, with(ALL), x -> x.letter(0, 1, true, i), -1);
            doesNothing("name byte " + i, with(ALL), x -> x.letter(0, 1, false, i), -1);
        }
        doesNothing("name byte 3 of three", with(ALL), x -> x.letter(0, 1, false, 3), -1);
    }

    private static void noText() {
        Recorded x = with(ALL);
        for (int node : new int[] {0, 2, 3, 5, 6}) {
            letters(x, node, true);
        }
    }

    private static void noName() {
        letters(with(ALL), 0, false);
        letters(with(ALL), 2, false);
    }

    private static void noNode() {
        for (int node : new int[] {-1, 7, 8, 700, Integer.MIN_VALUE, Integer.MAX_VALUE}) {
            for (boolean text : new boolean[] {false, true}) {
                doesNothing("node " + node, with(ALL), x -> x.letter(0, node, text, 0), -1);
            }
        }
        due("node 1 of another slot", with(ALL).letter(1, 1, false, 0), -1);
    }

    private static void noSlot() {
        for (int s : NO_SLOTS) {
            for (boolean text : new boolean[] {false, true}) {
                doesNothing("slot " + s, with(ALL), x -> x.letter(s, 1, text, 0), -1);
                doesNothing("slot " + s + ", node 0", with(ALL), x -> x.letter(s, 0, text, 0), -1);
            }
        }
    }

    private static void longest() {
        Recorded x = with(document(text("", xs(1988))));
        due("the last letter", x.letter(0, 1, true, 1987), 'x');
        due("behind the last letter", x.letter(0, 1, true, 1988), -1);
        Recorded y = with(document(element(10, xs(1993), EMPTY)));
        due("the name's last byte", y.letter(0, 1, false, 1992), 'x');
        due("behind the name's last byte", y.letter(0, 1, false, 1993), -1);
    }
}
