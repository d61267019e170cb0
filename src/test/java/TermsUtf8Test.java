import java.io.ByteArrayOutputStream;
import java.nio.ByteBuffer;
import java.nio.charset.CharacterCodingException;
import java.nio.charset.StandardCharsets;
import java.util.Arrays;

/** RIGHT UTF-8, in names and in texts, at each edge and over whole ranges; Java's own decoder says what is right. */
final class TermsUtf8Test extends Check {
    public static void main(String[] args) {
        sentence("Terms: code points 0 .. 1114111 are right in texts", () -> all(true));
        sentence("Terms: code points 1 .. 1114111 are right in names", () -> all(false));
        sentence("Terms: the first and last code points of each length are right", TermsUtf8Test::edges);
        sentence("Terms: but 55296 .. 57343", TermsUtf8Test::surrogates);
        sentence("Terms: 1114112 and more are none", TermsUtf8Test::above);
        sentence("Terms: only the shortest form is right", TermsUtf8Test::longerForms);
        sentence("Terms: a letter has all of its bytes", TermsUtf8Test::cutOff);
        sentence("Terms: all pairs of bytes, and others near the edges, as Java's own decoder has them",
                TermsUtf8Test::asJavaHasThem);
        finish();
    }

    private static byte[] in(byte[] letters, boolean text) {
        return document(text ? text("", letters) : element(10, letters, EMPTY));
    }

    /** Reads the letters as a text or as a name; `wrong` is the first byte of what is not right, or -1. */
    private static void read(DocumentBytes x, byte[] letters, boolean text, int wrong) {
        byte[] all = in(letters, text);
        for (int at = 0; at < all.length; at += 20) {
            x.feed(word(all, at), word(all, at + 4), word(all, at + 8), word(all, at + 12), word(all, at + 16));
        }
        int fault = x.read(0, all.length);
        int place = x.place();
        int faultDue = wrong < 0 ? 0 : 4;
        int placeDue = wrong < 0 ? -1 : (text ? 10 : 5) + wrong;
        if (fault != faultDue || place != placeDue) {
            String what = (text ? "text " : "name ") + hex(letters);
            due(what, fault, faultDue);
            due(what + ": place", place, placeDue);
        }
    }

    private static int word(byte[] all, int at) {
        int word = 0;
        for (int i = at; i < at + 4; i++) {
            word = word << 8 | (i < all.length ? all[i] & 255 : 0);
        }
        return word;
    }

    private static String hex(byte[] letters) {
        StringBuilder all = new StringBuilder();
        for (int i = 0; i < letters.length && i < 20; i++) {
            all.append(String.format("%02x ", letters[i]));
        }
        return all.toString();
    }

    private static void both(byte[] letters, int wrong) {
        read(new DocumentBytes(), letters, false, wrong);
        read(new DocumentBytes(), letters, true, wrong);
        byte[] behind = join(utf8("a\u00e9\u20ac"), letters);
        read(new DocumentBytes(), behind, false, wrong < 0 ? -1 : wrong + 6);
        read(new DocumentBytes(), behind, true, wrong < 0 ? -1 : wrong + 6);
    }

    private static void all(boolean text) {
        ByteArrayOutputStream some = new ByteArrayOutputStream();
        for (int point = text ? 0 : 1; point <= 0x10FFFF; point++) {
            if (point < 0xD800 || point > 0xDFFF) {
                byte[] letter = utf8(Character.toString(point));
                some.write(letter, 0, letter.length);
            }
            if (some.size() > 1980 || point == 0x10FFFF) {
                read(new DocumentBytes(), some.toByteArray(), text, -1);
                some.reset();
            }
        }
    }

    private static void edges() {
        int[] points = {1, 0x7F, 0x80, 0x7FF, 0x800, 0xD7FF, 0xE000, 0xFFFD, 0xFFFE, 0xFFFF, 0x10000, 0x3FFFF,
            0x40000, 0xFFFFF, 0x100000, 0x10FFFF};
        for (int point : points) {
            both(utf8(Character.toString(point)), -1);
        }
        read(new DocumentBytes(), bytes(0), true, -1);
    }

    /** A code point in so many bytes, whether or not that is its shortest form. */
    private static byte[] form(int point, int length) {
        byte[] letter = new byte[length];
        int rest = point;
        for (int i = length - 1; i > 0; i--) {
            letter[i] = (byte) (0x80 | rest & 0x3F);
            rest >>= 6;
        }
        int[] marks = {0, 0, 0xC0, 0xE0, 0xF0, 0xF8, 0xFC};
        letter[0] = (byte) (marks[length] | rest);
        return letter;
    }

    private static void surrogates() {
        for (int point = 0xD800; point <= 0xDFFF; point++) {
            both(form(point, 3), 0);
        }
        both(join(form(0xD83D, 3), form(0xDE00, 3)), 0);
        both(form(0xD7FF, 3), -1);
        both(form(0xE000, 3), -1);
    }

    private static void above() {
        for (int point = 0x110000; point <= 0x1FFFFF; point += point < 0x110100 ? 1 : 4093) {
            both(form(point, 4), 0);
        }
        both(form(0x1FFFFF, 4), 0);
        both(form(0x200000, 5), 0);
        both(form(0x3FFFFFF, 5), 0);
        both(form(0x4000000, 6), 0);
        both(form(0x7FFFFFFF, 6), 0);
        both(form(0x10FFFF, 4), -1);
    }

    private static void longerForms() {
        for (int point = 0; point <= 0x7F; point++) {
            both(form(point, 2), 0);
        }
        for (int point = 0; point <= 0x7FF; point++) {
            both(form(point, 3), 0);
        }
        for (int point = 0; point <= 0xFFFF; point += point < 0xFF00 ? 61 : 1) {
            both(form(point, 4), 0);
        }
        both(form('a', 5), 0);
        both(form('a', 6), 0);
        both(form(0x80, 2), -1);
        both(form(0x800, 3), -1);
        both(form(0x10000, 4), -1);
    }

    private static void cutOff() {
        for (int length = 2; length <= 4; length++) {
            byte[] letter = form(length == 2 ? 0xE9 : length == 3 ? 0x20AC : 0x1F600, length);
            for (int have = 1; have < length; have++) {
                byte[] part = Arrays.copyOf(letter, have);
                both(part, 0);
                both(join(part, bytes('z', 'z', 'z')), 0);
                both(join(part, letter), 0);
            }
            both(join(letter, bytes(0x80)), length);
            both(letter, -1);
        }
    }

    /** The first byte from which no one to four bytes are one letter, or -1. */
    static int firstWrong(byte[] letters) {
        int at = 0;
        while (at < letters.length) {
            int length = 1;
            while (length <= 4 && (at + length > letters.length || !isLetter(letters, at, length))) {
                length++;
            }
            if (length > 4) {
                return at;
            }
            at += length;
        }
        return -1;
    }

    private static boolean isLetter(byte[] letters, int from, int length) {
        try {
            StandardCharsets.UTF_8.newDecoder().decode(ByteBuffer.wrap(letters, from, length));
            return true;
        } catch (CharacterCodingException notRight) {
            return false;
        }
    }

    private static void asJavaHasThem() {
        DocumentBytes x = null;
        for (int pair = 0; pair < 65536; pair++) {
            x = pair % 128 == 0 ? new DocumentBytes() : x;
            byte[] letters = bytes(pair >> 8, pair);
            read(x, letters, true, firstWrong(letters));
        }
        int[] edges = {0, 0x7F, 0x80, 0x8F, 0x90, 0x9F, 0xA0, 0xBF, 0xC0, 0xC2, 0xE0, 0xED, 0xF0, 0xF4, 0xFF};
        for (int first = 0x7F; first < 256; first++) {
            for (int second : edges) {
                for (int third : edges) {
                    x = new DocumentBytes();
                    for (int fourth : edges) {
                        byte[] letters = bytes(first, second, third, fourth);
                        read(x, letters, true, firstWrong(letters));
                    }
                }
            }
        }
    }
}
