/** Each fault that the Terms name, at its edges, with its place; the slot stays and the tape is empty each time. */
final class TermsFaultsTest extends Check {
    public static void main(String[] args) {
        sentence("Terms, at SIZE: 1 fewer than 4 bytes are left of all, for the document itself",
                TermsFaultsTest::fewerThan4OfAll);
        sentence("Terms, at SIZE: 1 fewer than 4 bytes are left of what it stands in, ahead of that one's last byte",
                TermsFaultsTest::fewerThan4Inside);
        sentence("Terms, at SIZE: 2 the SIZE is below 5", TermsFaultsTest::sizeBelow5);
        sentence("Terms, at SIZE: 2 less than all for the document itself", TermsFaultsTest::sizeLessThanAll);
        sentence("Terms, at SIZE: 1 it is more than is left", TermsFaultsTest::sizeMoreThanLeft);
        sentence("Terms, at SIZE: 8 it is too deep", TermsFaultsTest::tooDeep);
        sentence("Terms, at an element: 2 the last byte is not 0", TermsFaultsTest::lastByteIsNot0);
        sentence("Terms, at an element: 2 another one is 0", TermsFaultsTest::anotherIs0);
        sentence("Terms, at an element: 3 the kind is none", TermsFaultsTest::noKind);
        sentence("Terms, at a name: 1 there is no 0 behind it ahead of the last byte of its document",
                TermsFaultsTest::no0BehindTheName);
        sentence("Terms, at a name: 4 at the first byte of what is no right UTF-8", TermsFaultsTest::nameNoUtf8);
        sentence("Terms, at a name: 7 the document has that name already", TermsFaultsTest::nameTwice);
        sentence("Terms, at a name: 7 it is not the next number of a row", TermsFaultsTest::notTheNextNumber);
        sentence("Terms, at a value: 1 fewer bytes are left, ahead of the last one, than a number or a truth has",
                TermsFaultsTest::fewerThanANumber);
        sentence("Terms, at a value: 1 fewer bytes are left than 4, for a text", TermsFaultsTest::fewerThan4OfAText);
        sentence("Terms, at a value: 5 a truth that is neither 0 nor 1", TermsFaultsTest::noTruth);
        sentence("Terms, of a text: 6 n is below 1", TermsFaultsTest::nBelow1);
        sentence("Terms, of a text: 1 fewer bytes are left than 4 and n", TermsFaultsTest::fewerThan4AndN);
        sentence("Terms, of a text: 6 the last one of the n is not 0 (at that byte)", TermsFaultsTest::textsLastByte);
        sentence("Terms, of a text: 4 at the first byte of what is no right UTF-8", TermsFaultsTest::textNoUtf8);
        sentence("Terms: bytes are read from the first one on; the first thing that is not so is the FAULT",
                TermsFaultsTest::theFirstOne);
        finish();
    }

    /** What the refused reads find in their slot. */
    private static final byte[] OLD = document(whole("old", 7), row("r", truth("0", 1)));

    private static void refused(String what, byte[] all, int fault, int place) {
        Recorded x = with(OLD);
        String before = x.state();
        due(what + ": read", x.feedAndRead(0, all), fault);
        due(what + ": place", x.place(), place);
        due(what + ": the slots", x.state().replaceFirst("place -?\\d+", "place -1"), before);
        due(what + ": the tape", x.tapeCount(), 0);
    }

    private static void accepted(String what, byte[] all) {
        Recorded x = with(OLD);
        due(what + ": read", x.feedAndRead(0, all), 0);
        due(what + ": the slot", x.bytesOf(0), all);
    }

    /** Bytes as the elements of the document itself, of one in it, and of a row in that; the places go with them. */
    private static void refusedEverywhere(String what, byte[] elements, int fault, int place) {
        refused(what, document(elements), fault, 4 + place);
        refused(what + ", in a document", document(nothing("z"), inner("d", elements), nothing("y")), fault,
                4 + 3 + 3 + 4 + place);
        refused(what + ", in the last document", document(inner("d", inner("e", elements))), fault,
                4 + 7 + 7 + place);
    }

    private static void fewerThan4OfAll() {
        refused("no byte", EMPTY, 1, 0);
        refused("1 byte", bytes(5), 1, 0);
        refused("2 bytes", bytes(5, 0), 1, 0);
        refused("3 bytes", bytes(5, 0, 0), 1, 0);
        refused("3 bytes, and what comes ahead of a SIZE that is too small", bytes(0, 0, 0), 1, 0);
        refused("4 bytes are no longer too few for a SIZE", bytes(0, 0, 0, 0), 2, 0);
    }

    private static void fewerThan4Inside() {
        for (int kind = 3; kind <= 4; kind++) {
            for (int left = 0; left < 4; left++) {
                refusedEverywhere(left + " bytes left for kind " + kind, element(kind, "a", new byte[left]), 1, 3);
            }
            refusedEverywhere("4 bytes are no longer too few for a SIZE", element(kind, "a", new byte[4]), 2, 3);
        }
    }

    private static void sizeBelow5() {
        for (int size = 0; size < 5; size++) {
            refused("SIZE " + size, bytes(size, 0, 0, 0, 0), 2, 0);
            refused("SIZE " + size + " and no more", bytes(size, 0, 0, 0), 2, 0);
            for (int kind = 3; kind <= 4; kind++) {
                refusedEverywhere("SIZE " + size + " of kind " + kind, element(kind, "a", bytes(size, 0, 0, 0, 0)), 2, 3);
            }
        }
        accepted("SIZE 5", bytes(5, 0, 0, 0, 0));
        accepted("SIZE 5 in a document", document(inner("a"), row("b")));
    }

    private static void sizeLessThanAll() {
        refused("5 of 6", bytes(5, 0, 0, 0, 0, 0), 2, 0);
        refused("19 of 20", join(documentOf(19), bytes(0)), 2, 0);
        refused("5 of 2,000", join(document(), new byte[1995]), 2, 0);
        refused("1,999 of 2,000", join(documentOf(1999), bytes(0)), 2, 0);
        // Only the document itself has to have all: behind an inner one its next neighbour comes.
        accepted("an inner one less than is left", document(inner("a"), nothing("b")));
    }

    private static void sizeMoreThanLeft() {
        refused("5 of 4", bytes(5, 0, 0, 0), 1, 0);
        refused("6 of 5", bytes(6, 0, 0, 0, 0), 1, 0);
        refused("21 of 20", join(little(21, 4), new byte[16]), 1, 0);
        refused("2,001 of 2,000", join(little(2001, 4), new byte[1996]), 1, 0);
        refused("256 more", bytes(5, 1, 0, 0, 0), 1, 0);
        refused("65,536 more", bytes(5, 0, 1, 0, 0), 1, 0);
        for (int kind = 3; kind <= 4; kind++) {
            refusedEverywhere("5 of 4", element(kind, "a", bytes(5, 0, 0, 0)), 1, 3);
            refusedEverywhere("6 of 5: the last byte is not left", element(kind, "a", bytes(6, 0, 0, 0, 0)), 1, 3);
            refusedEverywhere("2^32 - 1 of 5", element(kind, "a", bytes(255, 255, 255, 255, 0)), 1, 3);
        }
    }

    private static void tooDeep() {
        int place = 16 * 7;
        refused("a document 17 deep", nested(16, inner("d")), 8, place);
        refused("a row 17 deep", nested(16, row("d")), 8, place);
        refused("18 deep is refused at 17", nested(18), 8, place);
        refused("a wrong thing inside comes later", nested(16, inner("d", bytes(99))), 8, place);
        refused("fewer than 4 bytes come ahead", nested(16, element(3, "d", bytes(5, 0, 0))), 1, place);
        refused("a SIZE below 5 comes ahead", nested(16, element(3, "d", bytes(4, 0, 0, 0, 0))), 2, place);
        refused("a SIZE of more than is left comes ahead", nested(16, element(4, "d", bytes(6, 0, 0, 0, 0))), 1, place);
        accepted("16 deep", nested(16));
    }

    private static void lastByteIsNot0() {
        for (int last = 1; last < 256; last++) {
            refused("last byte " + last, bytes(5, 0, 0, 0, last), 2, 4);
        }
        refused("behind an element", join(bytes(8, 0, 0, 0), nothing("a"), bytes(1)), 2, 7);
        for (int kind = 3; kind <= 4; kind++) {
            byte[] wrong = element(kind, "a", bytes(5, 0, 0, 0, 10));
            refusedEverywhere("of an inner one, kind " + kind, wrong, 2, 7);
        }
        refused("behind an inner one", join(bytes(13, 0, 0, 0), inner("a"), bytes(3)), 2, 12);
        byte[] full = documentOf(2000);
        full[1999] = 'x';
        refused("byte 1,999", full, 2, 1999);
    }

    private static void anotherIs0() {
        refusedEverywhere("at once", bytes(0), 2, 0);
        refusedEverywhere("at once, and more", join(bytes(0), nothing("a")), 2, 0);
        refusedEverywhere("behind an element", join(nothing("a"), bytes(0)), 2, 3);
        refusedEverywhere("behind a number", join(whole("a", 0), bytes(0)), 2, 7);
        refusedEverywhere("behind an inner one", join(inner("a"), bytes(0)), 2, 8);
        refusedEverywhere("in a row", row("a", bytes(0)), 2, 7);
    }

    private static void noKind() {
        for (int kind = 1; kind < 256; kind++) {
            boolean none = true;
            for (int k : KINDS) {
                none &= k != kind;
            }
            if (none) {
                refused("kind " + kind, document(element(kind, "a", new byte[4])), 3, 4);
                refused("kind " + kind + " without a name", document(bytes(kind)), 3, 4);
            } else {
                accepted("kind " + kind, document(element(kind, "a", plainValue(kind))));
            }
        }
        refusedEverywhere("kind 5", bytes(5), 3, 0);
        refusedEverywhere("behind an element", join(nothing("a"), bytes(255, 'b', 0)), 3, 3);
    }

    private static void no0BehindTheName() {
        for (int kind : KINDS) {
            refusedEverywhere("just the kind " + kind, bytes(kind), 1, 1);
            refusedEverywhere("a name of one byte", bytes(kind, 'a'), 1, 1);
        }
        refusedEverywhere("a longer name", bytes(10, 'a', 'b', 'c'), 1, 1);
        refusedEverywhere("behind an element", join(nothing("a"), bytes(10, 'b')), 1, 4);
        refusedEverywhere("it comes ahead of no right UTF-8", bytes(10, 255), 1, 1);
        refusedEverywhere("it comes ahead of a name that is there", join(nothing("a"), bytes(10, 'a')), 1, 4);
        refused("it comes ahead of what is no number of a row", document(row("", bytes(10, 'x'))), 1, 11);
        refused("the 0s behind the document do not count", document(inner("", bytes(10, 'a')), nothing("")), 1, 11);
        accepted("a 0 just ahead of the last byte", document(nothing("a")));
    }

    private static final byte[][] NO_UTF8 = {bytes(0x80), bytes(0xBF), bytes(0xC0, 0x80), bytes(0xC1, 0xBF),
        bytes(0xC2), bytes(0xC2, 'a'), bytes(0xC2, 0xC0), bytes(0xE0, 0x9F, 0xBF), bytes(0xE1, 0x80),
        bytes(0xE1, 0x80, 'a'), bytes(0xED, 0xA0, 0x80), bytes(0xED, 0xBF, 0xBF), bytes(0xF0, 0x8F, 0xBF, 0xBF),
        bytes(0xF1, 0x80, 0x80), bytes(0xF1, 0x80, 0x80, 0xC0), bytes(0xF4, 0x90, 0x80, 0x80),
        bytes(0xF5, 0x80, 0x80, 0x80), bytes(0xFF)};

    private static void nameNoUtf8() {
        for (byte[] w : NO_UTF8) {
            refusedEverywhere("at once", element(10, w, EMPTY), 4, 1);
            refusedEverywhere("behind two letters", element(10, join(bytes('a', 0xC3, 0xA4), w), EMPTY), 4, 4);
            refusedEverywhere("ahead of a letter", element(10, join(w, bytes('z')), EMPTY), 4, 1);
        }
        refusedEverywhere("it comes ahead of a value that is not there", element(16, bytes(255), EMPTY), 4, 1);
        refused("it comes ahead of what is no number of a row", document(row("", element(10, bytes('x', 255), EMPTY))),
                4, 12);
        refusedEverywhere("the first of two", element(10, bytes(255, 'a', 254), EMPTY), 4, 1);
    }

    private static void nameTwice() {
        for (int kind : KINDS) {
            refusedEverywhere("kind " + kind, join(nothing("a"), element(kind, "a", plainValue(kind))), 7, 4);
        }
        refusedEverywhere("no name twice", join(nothing(""), nothing("")), 7, 3);
        refusedEverywhere("not the neighbour", join(nothing("a"), nothing("b"), nothing("a")), 7, 7);
        refusedEverywhere("behind an inner one", join(nothing("a"), inner("b", nothing("c")), nothing("a")), 7, 15);
        refusedEverywhere("the inner one's own", join(inner("b"), nothing("b")), 7, 9);
        refusedEverywhere("it comes ahead of the value", join(nothing("a"), bytes(16, 'a', 0)), 7, 4);
        refusedEverywhere("a longer one", join(nothing("abc"), nothing("abd"), nothing("abc")), 7, 11);
        accepted("in another document", document(nothing("a"), inner("b", nothing("a"), nothing("b"))));
    }

    private static void notTheNextNumber() {
        for (String name : new String[] {"", "1", "00", "a", "-0", "0 ", "+0", ":", "/", "\u0660"}) {
            refused("first name " + name, document(row("", nothing(name))), 7, 11);
        }
        for (String name : new String[] {"0", "2", "01", "", "11", "10"}) {
            refused("second name " + name, document(row("", nothing("0"), nothing(name))), 7, 14);
        }
        wrongNext(10, 30, "0", "1", "9", "11", "010", "100", ":", "");
        wrongNext(100, 390, "99", "101", "10", "00", "0100", "1000");
        refused("it comes ahead of the value", document(row("", bytes(16, '1', 0))), 7, 11);
        accepted("each row counts for itself", document(row("a", row("0", nothing("0")), nothing("1")),
                row("b", nothing("0"))));
        accepted("a document in a row does not count", document(row("a", inner("0", nothing("7")), nothing("1"))));
    }

    private static void wrongNext(int count, int bytesAhead, String... names) {
        byte[][] elements = new byte[count + 1][];
        for (int i = 0; i < count; i++) {
            elements[i] = nothing(String.valueOf(i));
        }
        for (String name : names) {
            elements[count] = nothing(name);
            refused("name " + count + " is " + name, document(row("", elements)), 7, 10 + bytesAhead + 1);
        }
        elements[count] = nothing(String.valueOf(count));
        accepted("name " + count, document(row("", elements)));
    }

    private static void fewerThanANumber() {
        int[][] widths = {{16, 4}, {18, 8}, {8, 1}};
        for (int[] w : widths) {
            for (int left = 0; left < w[1]; left++) {
                refusedEverywhere(left + " bytes left for kind " + w[0], element(w[0], "a", times(left, 9)), 1, 3);
            }
            accepted("enough for kind " + w[0], document(element(w[0], "a", new byte[w[1]])));
        }
    }

    private static void fewerThan4OfAText() {
        for (int left = 0; left < 4; left++) {
            refusedEverywhere(left + " bytes left", element(2, "a", new byte[left]), 1, 3);
        }
        refusedEverywhere("4 bytes are no longer too few for n", element(2, "a", new byte[4]), 6, 3);
    }

    private static void noTruth() {
        for (int v = 2; v < 256; v++) {
            refused("truth " + v, document(truth("a", v)), 5, 7);
        }
        refusedEverywhere("truth 2", truth("a", 2), 5, 3);
        refusedEverywhere("truth 255", truth("a", 255), 5, 3);
        accepted("both truths", document(truth("a", 0), truth("b", 1)));
    }

    private static void nBelow1() {
        refusedEverywhere("n is 0, and no more", element(2, "a", bytes(0, 0, 0, 0)), 6, 3);
        refusedEverywhere("n is 0, and a byte 0", element(2, "a", bytes(0, 0, 0, 0, 0)), 6, 3);
        accepted("n is 1", document(element(2, "a", bytes(1, 0, 0, 0, 0))));
    }

    private static void fewerThan4AndN() {
        refusedEverywhere("0 of 1", element(2, "a", bytes(1, 0, 0, 0)), 1, 3);
        refusedEverywhere("2 of 3: the last byte is not left", element(2, "a", bytes(3, 0, 0, 0, 'x', 0)), 1, 3);
        refusedEverywhere("it comes ahead of the last byte", element(2, "a", bytes(3, 0, 0, 0, 'x', 'y')), 1, 3);
        refusedEverywhere("it comes ahead of no right UTF-8", element(2, "a", bytes(3, 0, 0, 0, 255, 0)), 1, 3);
        refusedEverywhere("n of 257", element(2, "a", bytes(1, 1, 0, 0, 0)), 1, 3);
        refusedEverywhere("n of 2^31 + 1", element(2, "a", bytes(1, 0, 0, 128, 0)), 1, 3);
        refused("n of 1,990 in 2,000 bytes", join(little(2000, 4), bytes(2, 0), little(1990, 4), xs(1989), bytes(0)), 1, 6);
        accepted("n of 1,989 in 2,000 bytes", document(text("", xs(1988))));
    }

    private static void textsLastByte() {
        refusedEverywhere("of n = 1", element(2, "a", bytes(1, 0, 0, 0, 'x')), 6, 7);
        refusedEverywhere("of n = 3", element(2, "a", bytes(3, 0, 0, 0, 'x', 'y', 'z')), 6, 9);
        refusedEverywhere("a 0 ahead of it is none", element(2, "a", bytes(3, 0, 0, 0, 0, 0, 'z')), 6, 9);
        refusedEverywhere("it comes ahead of no right UTF-8", element(2, "a", bytes(3, 0, 0, 0, 255, 'y', 'z')), 6, 9);
        refusedEverywhere("a letter that would end there", element(2, "a", bytes(2, 0, 0, 0, 0xC3, 0xA4)), 6, 8);
    }

    private static void textNoUtf8() {
        for (byte[] w : NO_UTF8) {
            refusedEverywhere("at once", text("a", w), 4, 7);
            refusedEverywhere("behind two letters", text("a", join(bytes('a', 0xC3, 0xA4), w)), 4, 10);
            refusedEverywhere("ahead of a 0", text("a", join(w, bytes(0))), 4, 7);
        }
        refusedEverywhere("the first of two", text("a", bytes(255, 'a', 254)), 4, 7);
        accepted("a 0 between letters", document(text("a", bytes('a', 0, 0xC3, 0xA4, 0))));
    }

    private static void theFirstOne() {
        refusedEverywhere("a truth ahead of a name", join(truth("a", 3), nothing("a")), 5, 3);
        refusedEverywhere("a name ahead of a truth", join(nothing("a"), truth("a", 3)), 7, 4);
        refused("a kind ahead of the last byte", bytes(6, 0, 0, 0, 5, 1), 3, 4);
        refused("a SIZE ahead of all that is in it", bytes(6, 0, 0, 0, 99), 1, 0);
        refused("an inner fault ahead of the last byte",
                join(bytes(14, 0, 0, 0), inner("a", bytes(99)), bytes(7)), 3, 11);
        refused("of two texts the first", document(text("a", bytes(255)), text("a", bytes(255))), 4, 11);
    }
}
