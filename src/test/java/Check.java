import java.io.ByteArrayOutputStream;
import java.nio.charset.StandardCharsets;

/** What the tests share: counting wrong answers, writing documents, and feeding bytes to an object. */
final class Check {
    private static int wrong = 0;

    private Check() {
    }

    static void due(String what, long got, long want) {
        if (got != want) {
            wrong++;
            System.out.println(what + " answered " + got + ", due is " + want);
        }
    }

    static void due(String what, boolean got, boolean want) {
        due(what, got ? 1 : 0, want ? 1 : 0);
    }

    static int wrongSoFar() {
        return wrong;
    }

    static void finish() {
        System.out.println(wrong == 0 ? "all answers are as due" : wrong + " answers are not as due");
        if (wrong != 0) {
            System.exit(1);
        }
    }

    static byte[] bytes(int... values) {
        byte[] result = new byte[values.length];
        for (int i = 0; i < values.length; i++) {
            result[i] = (byte) values[i];
        }
        return result;
    }

    static byte[] utf8(String text) {
        return text.getBytes(StandardCharsets.UTF_8);
    }

    static byte[] join(byte[]... parts) {
        ByteArrayOutputStream all = new ByteArrayOutputStream();
        for (byte[] part : parts) {
            all.write(part, 0, part.length);
        }
        return all.toByteArray();
    }

    static byte[] little(long value, int width) {
        byte[] result = new byte[width];
        for (int i = 0; i < width; i++) {
            result[i] = (byte) (value >> (8 * i));
        }
        return result;
    }

    static byte[] document(byte[]... elements) {
        byte[] inner = join(elements);
        return join(little(inner.length + 5, 4), inner, bytes(0));
    }

    static byte[] element(int kind, String name, byte[] value) {
        return element(kind, utf8(name), value);
    }

    static byte[] element(int kind, byte[] name, byte[] value) {
        return join(bytes(kind), name, bytes(0), value);
    }

    static byte[] whole(String name, int value) {
        return element(16, name, little(value, 4));
    }

    static byte[] longWhole(String name, long value) {
        return element(18, name, little(value, 8));
    }

    static byte[] truth(String name, int value) {
        return element(8, name, bytes(value));
    }

    static byte[] nothing(String name) {
        return element(10, name, bytes());
    }

    static byte[] text(String name, byte[] letters) {
        return element(2, name, join(little(letters.length + 1, 4), letters, bytes(0)));
    }

    /** A document of the given depth, one inside the other under the name "d", with these elements in the last one. */
    static byte[] nested(int depth, byte[]... innermost) {
        byte[] result = document(innermost);
        for (int i = 1; i < depth; i++) {
            result = document(element(3, "d", result));
        }
        return result;
    }

    /** A document with so many bytes: one text, of letters x. */
    static byte[] documentOf(int size) {
        return document(text("t", xs(size - 5 - 3 - 5)));
    }

    static byte[] xs(int count) {
        byte[] letters = new byte[count];
        java.util.Arrays.fill(letters, (byte) 'x');
        return letters;
    }

    /** Feeds the bytes, with 0 behind them up to a multiple of twenty. */
    static void feed(DocumentBytes x, byte[] all) {
        int[] words = new int[(all.length + 19) / 20 * 5];
        for (int i = 0; i < all.length; i++) {
            words[i / 4] |= (all[i] & 255) << (24 - 8 * (i % 4));
        }
        for (int i = 0; i < words.length; i += 5) {
            x.feed(words[i], words[i + 1], words[i + 2], words[i + 3], words[i + 4]);
        }
    }

    static int read(DocumentBytes x, int slot, byte[] all) {
        feed(x, all);
        return x.read(slot, all.length);
    }

    static DocumentBytes with(byte[] all) {
        DocumentBytes x = new DocumentBytes();
        due("read of " + all.length + " right bytes", read(x, 0, all), 0);
        return x;
    }

    static int add(DocumentBytes x, int node, int kind, long v, byte[] name, byte[] letters) {
        feed(x, join(name, letters));
        return x.add(0, node, kind, v, name.length, letters.length);
    }

    static int find(DocumentBytes x, int slot, int node, byte[] name) {
        feed(x, name);
        return x.find(slot, node, name.length);
    }

    static void dueBytes(String what, DocumentBytes x, int slot, byte[] want) {
        due(what + ": many(0)", x.many(slot, 0), want.length);
        for (int i = 0; i < want.length; i++) {
            int got = x.byteAt(slot, i);
            if (got != (want[i] & 255)) {
                due(what + ": byteAt(" + slot + ", " + i + ")", got, want[i] & 255);
                return;
            }
        }
        due(what + ": the byte behind the last", x.byteAt(slot, want.length), -1);
    }

    /** How many bytes are on the tape, found out by feeding; the tape has twenty more then. */
    static void dueTape(String what, DocumentBytes x, int want) {
        due(what + ": feed afterwards", x.feed(0, 0, 0, 0, 0), want + 20);
    }
}
