final class Promise09LetterTest {
    public static void main(String[] args) {
        DocumentBytes x = Check.with(Check.document(Check.text("é7", Check.bytes('a', 0, 0xC3, 0xBF)),
                Check.whole("", 77), Check.element(4, "r", Check.document(Check.text("0", Check.bytes())))));
        letters(x, 1, false, 0xC3, 0xA9, '7');
        letters(x, 1, true, 'a', 0, 0xC3, 0xBF);
        letters(x, 2, false);
        letters(x, 2, true);
        letters(x, 3, false, 'r');
        letters(x, 3, true);
        letters(x, 4, false, '0');
        letters(x, 4, true);
        letters(x, 0, false);
        letters(x, 0, true);
        letters(x, 5, false);
        letters(x, -1, true);
        for (int s : new int[] {-1, 8, Integer.MIN_VALUE, Integer.MAX_VALUE}) {
            Check.due("slot " + s, x.letter(s, 0, false, 0), -1);
        }
        Check.finish();
    }

    private static void letters(DocumentBytes x, int node, boolean text, int... want) {
        for (int i = 0; i < want.length; i++) {
            Check.due("letter(0, " + node + ", " + text + ", " + i + ")", x.letter(0, node, text, i), want[i]);
        }
        for (int i : new int[] {-1, want.length, want.length + 1, Integer.MIN_VALUE, Integer.MAX_VALUE}) {
            Check.due("letter(0, " + node + ", " + text + ", " + i + ")", x.letter(0, node, text, i), -1);
        }
    }
}
