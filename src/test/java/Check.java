import java.io.ByteArrayOutputStream;
import java.nio.charset.StandardCharsets;
import java.util.Arrays;
import java.util.function.ToLongFunction;

/** What the tests share: counting wrong answers, naming the sentence that is tested, and writing documents. */
abstract class Check {
    /** Numbers that are no slot. */
    static final int[] NO_SLOTS = {-1, 8, Integer.MIN_VALUE, Integer.MAX_VALUE};
    static final int[] KINDS = {2, 3, 4, 8, 10, 16, 18};
    static final byte[] EMPTY = {};

    private static int wrong = 0;
    private static int sentences = 0;
    private static String about = "";

    /** A test of one sentence of the document; what is not as due is told with the sentence. */
    static void sentence(String promiseAndWords, Runnable test) {
        sentences++;
        about = promiseAndWords + " | ";
        try {
            test.run();
        } catch (RuntimeException thrown) {
            tellWrong("it threw " + thrown);
        }
        about = "";
    }

    private static void tellWrong(String what) {
        wrong++;
        System.out.println(about + what);
    }

    static void due(String what, long got, long want) {
        if (got != want) {
            tellWrong(what + " answered " + got + ", due is " + want);
        }
    }

    static void due(String what, boolean got, boolean want) {
        due(what, got ? 1 : 0, want ? 1 : 0);
    }

    static void due(String what, String got, String want) {
        if (!got.equals(want)) {
            tellWrong(what + " is\n  " + got + "\ndue is\n  " + want);
        }
    }

    static void due(String what, byte[] got, byte[] want) {
        if (!Arrays.equals(got, want)) {
            tellWrong(what + " is " + Arrays.toString(got) + ", due is " + Arrays.toString(want));
        }
    }

    static int wrongSoFar() {
        return wrong;
    }

    static void finish() {
        System.out.println((sentences > 0 ? sentences + " sentences: " : "")
                + (wrong == 0 ? "all answers are as due" : wrong + " answers are not as due"));
        if (wrong != 0) {
            System.exit(1);
        }
    }

    /** A call that is refused and does nothing: every slot, the place and the tape stay. */
    static void doesNothing(String what, Recorded x, ToLongFunction<Recorded> call, long want) {
        String before = x.state();
        byte[] tape = x.tape();
        due(what, call.applyAsLong(x), want);
        due(what + ": the state afterwards", x.state(), before);
        due(what + ": the tape afterwards", x.tape(), tape);
    }

    /** A call that changes no slot, nor the place, but empties the tape. */
    static void emptiesTheTape(String what, Recorded x, ToLongFunction<Recorded> call, long want) {
        String before = x.state();
        due(what, call.applyAsLong(x), want);
        due(what + ": the state afterwards", x.state(), before);
        due(what + ": bytes on the tape afterwards", x.tapeCount(), 0);
    }

    static byte[] bytes(int... values) {
        byte[] result = new byte[values.length];
        for (int i = 0; i < values.length; i++) {
            result[i] = (byte) values[i];
        }
        return result;
    }

    static byte[] utf8(String text) {
        return text.getBytes(StandardCharsets.UTF_8);
    }

    static byte[] join(byte[]... parts) {
        ByteArrayOutputStream all = new ByteArrayOutputStream();
        for (byte[] part : parts) {
            all.write(part, 0, part.length);
        }
        return all.toByteArray();
    }

    static byte[] little(long value, int width) {
        byte[] result = new byte[width];
        for (int i = 0; i < width; i++) {
            result[i] = (byte) (value >> (8 * i));
        }
        return result;
    }

    /** So many bytes, each with this value. */
    static byte[] times(int count, int value) {
        byte[] result = new byte[count];
        Arrays.fill(result, (byte) value);
        return result;
    }

    static byte[] xs(int count) {
        return times(count, 'x');
    }

    /** A document, or a row's value, of these elements. */
    static byte[] document(byte[]... elements) {
        byte[] inner = join(elements);
        return join(little(inner.length + 5, 4), inner, bytes(0));
    }

    static byte[] element(int kind, String name, byte[] value) {
        return element(kind, utf8(name), value);
    }

    static byte[] element(int kind, byte[] name, byte[] value) {
        return join(bytes(kind), name, bytes(0), value);
    }

    static byte[] whole(String name, int value) {
        return element(16, name, little(value, 4));
    }

    static byte[] longWhole(String name, long value) {
        return element(18, name, little(value, 8));
    }

    static byte[] truth(String name, int value) {
        return element(8, name, bytes(value));
    }

    static byte[] nothing(String name) {
        return element(10, name, EMPTY);
    }

    static byte[] text(String name, byte[] letters) {
        return element(2, name, textValue(letters));
    }

    static byte[] textValue(byte[] letters) {
        return join(little(letters.length + 1, 4), letters, bytes(0));
    }

    static byte[] inner(String name, byte[]... elements) {
        return element(3, name, document(elements));
    }

    static byte[] row(String name, byte[]... elements) {
        return element(4, name, document(elements));
    }

    /** A row of so many truths, 0 and 1 by turns. */
    static byte[] longRow(String name, int count) {
        byte[][] elements = new byte[count][];
        for (int i = 0; i < count; i++) {
            elements[i] = truth(String.valueOf(i), i % 2);
        }
        return row(name, elements);
    }

    /** The value of an element of this kind, as add() with v = 0 and no text makes it. */
    static byte[] plainValue(int kind) {
        switch (kind) {
            case 16:
                return new byte[4];
            case 18:
                return new byte[8];
            case 8:
                return new byte[1];
            case 10:
                return EMPTY;
            case 2:
                return textValue(EMPTY);
            default:
                return document();
        }
    }

    /** A document of the given depth, one inside the other under the name "d", with these elements in the last one. */
    static byte[] nested(int depth, byte[]... innermost) {
        byte[] result = document(innermost);
        for (int i = 1; i < depth; i++) {
            result = document(element(3, "d", result));
        }
        return result;
    }

    /** A document with so many bytes: one text, of letters x. */
    static byte[] documentOf(int size) {
        return document(text("t", xs(size - 5 - 3 - 5)));
    }

    /** A document of five in a row, each with 128 elements that have no value and names of at most one byte. */
    static byte[] crowd() {
        byte[][] all = new byte[128][];
        all[0] = nothing("");
        for (int i = 1; i < 128; i++) {
            all[i] = element(10, bytes(i), EMPTY);
        }
        byte[][] five = new byte[5][];
        for (int i = 0; i < five.length; i++) {
            five[i] = inner(String.valueOf(i), all);
        }
        return document(row("", five));
    }

    /** An object whose slot 0 has read these bytes. */
    static Recorded with(byte[] all) {
        Recorded x = new Recorded();
        due("read of " + all.length + " right bytes", x.feedAndRead(0, all), 0);
        return x;
    }
}
