import java.util.ArrayList;
import java.util.List;
import java.util.function.Consumer;
import java.util.function.ToLongFunction;

/**
 * An object with all calls that were made on it. It refuses to be called more than 512 times, as later answers are
 * free; and it can be made again, so that all of its state can be asked for without using up its own calls.
 */
final class Recorded {
    static final int MOST_CALLS = 512;

    private final DocumentBytes object = new DocumentBytes();
    private final List<ToLongFunction<DocumentBytes>> calls = new ArrayList<>();
    private final List<Long> answers = new ArrayList<>();

    private long call(ToLongFunction<DocumentBytes> call) {
        if (calls.size() >= MOST_CALLS) {
            throw new IllegalStateException("the test calls one object more than " + MOST_CALLS + " times");
        }
        long answer = call.applyAsLong(object);
        calls.add(call);
        answers.add(answer);
        return answer;
    }

    int feed(int a, int b, int c, int d, int e) {
        return (int) call(x -> x.feed(a, b, c, d, e));
    }

    int read(int s, int n) {
        return (int) call(x -> x.read(s, n));
    }

    int place() {
        return (int) call(DocumentBytes::place);
    }

    int many(int s, int what) {
        return (int) call(x -> x.many(s, what));
    }

    int byteAt(int s, int i) {
        return (int) call(x -> x.byteAt(s, i));
    }

    int look(int s, int node, int what) {
        return (int) call(x -> x.look(s, node, what));
    }

    long number(int s, int node) {
        return call(x -> x.number(s, node));
    }

    int letter(int s, int node, boolean text, int i) {
        return (int) call(x -> x.letter(s, node, text, i));
    }

    int find(int s, int node, int n) {
        return (int) call(x -> x.find(s, node, n));
    }

    int add(int s, int node, int kind, long v, int n, int m) {
        return (int) call(x -> x.add(s, node, kind, v, n, m));
    }

    int graft(int s, int node, int t, int from, int n) {
        return (int) call(x -> x.graft(s, node, t, from, n));
    }

    int set(int s, int node, long v) {
        return (int) call(x -> x.set(s, node, v) ? 1 : 0);
    }

    int drop(int s, int node) {
        return (int) call(x -> x.drop(s, node) ? 1 : 0);
    }

    int callsLeft() {
        return MOST_CALLS - calls.size();
    }

    /** Feeds the bytes, with 0 behind them up to a multiple of twenty. */
    void feedAll(byte[] all) {
        int[] words = new int[(all.length + 19) / 20 * 5];
        for (int i = 0; i < all.length; i++) {
            words[i / 4] |= (all[i] & 255) << (24 - 8 * (i % 4));
        }
        for (int i = 0; i < words.length; i += 5) {
            feed(words[i], words[i + 1], words[i + 2], words[i + 3], words[i + 4]);
        }
    }

    int feedAndRead(int slot, byte[] all) {
        feedAll(all);
        return read(slot, all.length);
    }

    int feedAndFind(int slot, int node, byte[] name) {
        feedAll(name);
        return find(slot, node, name.length);
    }

    int feedAndAdd(int node, int kind, long v, byte[] name, byte[] letters) {
        feedAll(Check.join(name, letters));
        return add(0, node, kind, v, name.length, letters.length);
    }

    int feedAndGraft(int s, int node, int t, int from, byte[] name) {
        feedAll(name);
        return graft(s, node, t, from, name.length);
    }

    /** A new object after the same calls, which have to answer the same. */
    private DocumentBytes again() {
        DocumentBytes x = new DocumentBytes();
        for (int i = 0; i < calls.size(); i++) {
            Check.due("call " + i + ", made again", calls.get(i).applyAsLong(x), answers.get(i));
        }
        return x;
    }

    /** Asks objects that were made again, a new one as soon as one has had its 512 calls. */
    private final class Asker {
        private final Consumer<DocumentBytes> first;
        private final int callsOfFirst;
        private DocumentBytes x;
        private int left = 0;

        Asker(Consumer<DocumentBytes> first, int callsOfFirst) {
            this.first = first;
            this.callsOfFirst = callsOfFirst;
        }

        long ask(ToLongFunction<DocumentBytes> question) {
            if (left <= 0) {
                x = again();
                first.accept(x);
                left = callsLeft() - callsOfFirst;
            }
            if (left <= 0) {
                throw new IllegalStateException("the test leaves no calls to ask with");
            }
            left--;
            return question.applyAsLong(x);
        }
    }

    private Asker asker() {
        return new Asker(x -> { }, 0);
    }

    byte[] bytesOf(int slot) {
        Asker asker = asker();
        byte[] all = new byte[(int) asker.ask(x -> x.many(slot, 0))];
        for (int i = 0; i < all.length; i++) {
            int at = i;
            all[i] = (byte) asker.ask(x -> x.byteAt(slot, at));
        }
        return all;
    }

    /** All that can be asked of the slots, the tape aside: their bytes, their nodes, the place. */
    String state() {
        Asker asker = asker();
        StringBuilder all = new StringBuilder("place " + asker.ask(DocumentBytes::place));
        for (int s = 0; s < 8; s++) {
            int slot = s;
            all.append("; slot ").append(s).append(": ");
            for (byte b : bytesOf(s)) {
                all.append(String.format("%02x", b));
            }
            long nodes = asker.ask(x -> x.many(slot, 1));
            all.append(", depth ").append(asker.ask(x -> x.many(slot, 2)));
            for (int node = 0; node < nodes; node++) {
                all.append(", node ").append(node).append(':').append(looks(asker, s, node));
            }
        }
        return all.toString();
    }

    private static String looks(Asker asker, int s, int node) {
        StringBuilder all = new StringBuilder();
        for (int what = 0; what < 9; what++) {
            int w = what;
            all.append(' ').append(asker.ask(x -> x.look(s, node, w)));
        }
        return all.append(" = ").append(asker.ask(x -> x.number(s, node))).toString();
    }

    /** How many bytes are on the tape; they come by twenties, so that only a full one takes no more. */
    int tapeCount() {
        int more = (int) asker().ask(x -> x.feed(0, 0, 0, 0, 0));
        return more < 0 ? 2000 : more - 20;
    }

    /** The tape's bytes, or the first 1,988 of them, as more are no text; they have to be right UTF-8. */
    byte[] tape() {
        int count = Math.min(tapeCount(), 1988);
        int drops = (int) asker().ask(x -> x.look(7, 0, 7));
        Asker asker = new Asker(x -> {
            for (int i = 0; i < drops; i++) {
                x.drop(7, 1);
            }
            Check.due("the tape as a text", x.add(7, 0, 2, 0, 0, count), 1);
        }, drops + 1);
        byte[] all = new byte[count];
        for (int i = 0; i < count; i++) {
            int at = i;
            all[i] = (byte) asker.ask(x -> x.letter(7, 1, true, at));
        }
        return all;
    }
}
