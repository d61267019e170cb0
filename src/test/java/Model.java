import java.nio.ByteBuffer;
import java.nio.charset.CharacterCodingException;
import java.nio.charset.CodingErrorAction;
import java.nio.charset.StandardCharsets;
import java.util.ArrayList;
import java.util.Arrays;
import java.util.List;

/** The document's promises written a second time, as a tree of objects, to compare long runs with. */
final class Model {
    private static final class Fault extends Exception {
        private static final long serialVersionUID = 1;
        final int code;
        final int place;

        Fault(int code, int place) {
            super("fault", null, false, false);
            this.code = code;
            this.place = place;
        }
    }

    private static final class Item {
        int kind;
        byte[] name = {};
        long number;
        byte[] text = {};
        Item parent;
        final List<Item> items = new ArrayList<>();

        boolean holds() {
            return kind == 3 || kind == 4;
        }

        int depth() {
            return (parent == null ? 0 : parent.depth()) + (holds() || parent == null ? 1 : 0);
        }

        int height() {
            int most = 0;
            for (Item i : items) {
                most = Math.max(most, i.height());
            }
            return most + (holds() ? 1 : 0);
        }

        byte[] value() {
            switch (kind) {
                case 16:
                    return Check.little(number, 4);
                case 18:
                    return Check.little(number, 8);
                case 8:
                    return Check.little(number, 1);
                case 10:
                    return new byte[0];
                case 2:
                    return Check.join(Check.little(text.length + 1, 4), text, new byte[1]);
                default:
                    byte[][] parts = new byte[items.size()][];
                    for (int i = 0; i < parts.length; i++) {
                        parts[i] = Check.element(items.get(i).kind, items.get(i).name, items.get(i).value());
                    }
                    return Check.document(parts);
            }
        }

        void list(List<Item> all) {
            all.add(this);
            for (Item i : items) {
                i.list(all);
            }
        }

        Item copy() {
            Item c = new Item();
            c.kind = kind;
            c.name = name;
            c.number = number;
            c.text = text;
            for (Item i : items) {
                c.put(i.copy());
            }
            return c;
        }

        void put(Item i) {
            i.parent = this;
            items.add(i);
        }

        Item named(byte[] wanted) {
            for (Item i : items) {
                if (Arrays.equals(i.name, wanted)) {
                    return i;
                }
            }
            return null;
        }
    }

    private final Item[] slots = new Item[8];
    private byte[] tape = {};
    private int place = -1;

    Model() {
        for (int i = 0; i < 8; i++) {
            slots[i] = new Item();
            slots[i].kind = 3;
        }
    }

    int feed(int... words) {
        if (tape.length + 20 > 2000) {
            return -1;
        }
        ByteBuffer b = ByteBuffer.allocate(20);
        for (int w : words) {
            b.putInt(w);
        }
        tape = Check.join(tape, b.array());
        return tape.length;
    }

    int read(int s, int n) {
        if (s < 0 || s > 7 || n < 0 || n > tape.length) {
            return -1;
        }
        byte[] all = Arrays.copyOf(tape, n);
        tape = new byte[0];
        place = -1;
        try {
            Item root = new Item();
            root.kind = 3;
            parseDocument(all, 0, n, root, true);
            slots[s] = root;
            return 0;
        } catch (Fault f) {
            place = f.place;
            return f.code;
        }
    }

    private static long unsigned(byte[] all, int at) {
        return ByteBuffer.wrap(all).order(java.nio.ByteOrder.LITTLE_ENDIAN).getInt(at) & 0xFFFFFFFFL;
    }

    /** Where the bytes that may be used end at `limit`; answers where the document ends. */
    private static int parseDocument(byte[] all, int at, int limit, Item into, boolean whole) throws Fault {
        if (limit - at < 4) {
            throw new Fault(1, at);
        }
        long size = unsigned(all, at);
        if (size < 5 || (whole && size < all.length)) {
            throw new Fault(2, at);
        }
        if (at + size > limit) {
            throw new Fault(1, at);
        }
        if (into.depth() > 16) {
            throw new Fault(8, at);
        }
        int last = at + (int) size - 1;
        int p = at + 4;
        while (p < last) {
            p = parseElement(all, p, last, into);
        }
        if (all[last] != 0) {
            throw new Fault(2, last);
        }
        return last + 1;
    }

    private static int parseElement(byte[] all, int at, int last, Item into) throws Fault {
        Item item = new Item();
        item.kind = all[at] & 255;
        item.parent = into;
        if (item.kind == 0) {
            throw new Fault(2, at);
        }
        if (!List.of(16, 18, 8, 10, 2, 3, 4).contains(item.kind)) {
            throw new Fault(3, at);
        }
        int end = at + 1;
        while (end < last && all[end] != 0) {
            end++;
        }
        if (end == last) {
            throw new Fault(1, at + 1);
        }
        item.name = Arrays.copyOfRange(all, at + 1, end);
        utf8(item.name, at + 1);
        boolean fits = into.kind == 4
                ? new String(item.name, StandardCharsets.ISO_8859_1).equals(Integer.toString(into.items.size()))
                : into.named(item.name) == null;
        if (!fits) {
            throw new Fault(7, at + 1);
        }
        int after = parseValue(all, end + 1, last, item);
        into.items.add(item);
        return after;
    }

    private static int parseValue(byte[] all, int at, int last, Item item) throws Fault {
        int left = last - at;
        if (item.holds()) {
            return parseDocument(all, at, last, item, false);
        }
        if (item.kind == 2) {
            if (left < 4) {
                throw new Fault(1, at);
            }
            long n = unsigned(all, at);
            if (n == 0) {
                throw new Fault(6, at);
            }
            if (left < 4 + n) {
                throw new Fault(1, at);
            }
            int end = at + 4 + (int) n;
            if (all[end - 1] != 0) {
                throw new Fault(6, end - 1);
            }
            item.text = Arrays.copyOfRange(all, at + 4, end - 1);
            utf8(item.text, at + 4);
            return end;
        }
        int width = item.kind == 16 ? 4 : item.kind == 18 ? 8 : item.kind == 8 ? 1 : 0;
        if (left < width) {
            throw new Fault(1, at);
        }
        for (int i = 0; i < width; i++) {
            item.number |= (all[at + i] & 255L) << (8 * i);
        }
        if (item.kind == 16) {
            item.number = (int) item.number;
        }
        if (item.kind == 8 && item.number > 1) {
            throw new Fault(5, at);
        }
        return at + width;
    }

    private static boolean right(byte[] bytes, int from, int length) {
        try {
            StandardCharsets.UTF_8.newDecoder().onMalformedInput(CodingErrorAction.REPORT)
                    .onUnmappableCharacter(CodingErrorAction.REPORT).decode(ByteBuffer.wrap(bytes, from, length));
            return true;
        } catch (CharacterCodingException e) {
            return false;
        }
    }

    /** Goes letter by letter: one to four bytes that Java's own decoder takes as one code point. */
    private static void utf8(byte[] bytes, int offset) throws Fault {
        int at = 0;
        while (at < bytes.length) {
            int length = 1;
            while (length <= 4 && (at + length > bytes.length || !right(bytes, at, length))) {
                length++;
            }
            if (length > 4) {
                throw new Fault(4, offset + at);
            }
            at += length;
        }
    }

    int place() {
        return place;
    }

    private List<Item> nodes(int s) {
        List<Item> all = new ArrayList<>();
        if (s >= 0 && s < 8) {
            slots[s].list(all);
        }
        return all;
    }

    private Item node(int s, int node) {
        List<Item> all = nodes(s);
        return node >= 0 && node < all.size() ? all.get(node) : null;
    }

    /** By which object it is, as two may look alike. */
    private int numberOf(int s, Item item) {
        List<Item> all = nodes(s);
        for (int i = 0; i < all.size(); i++) {
            if (all.get(i) == item) {
                return i;
            }
        }
        return -1;
    }

    int many(int s, int what) {
        if (s < 0 || s > 7) {
            return -1;
        }
        return what == 0 ? slots[s].value().length : what == 1 ? nodes(s).size() : what == 2 ? slots[s].height() : -1;
    }

    int byteAt(int s, int i) {
        if (s < 0 || s > 7 || i < 0 || i >= slots[s].value().length) {
            return -1;
        }
        return slots[s].value()[i] & 255;
    }

    int look(int s, int node, int what) {
        Item item = node(s, node);
        if (item == null) {
            return -1;
        }
        switch (what) {
            case 0:
                return item.kind;
            case 1:
                return numberOf(s, item.parent);
            case 2:
                return item.items.isEmpty() ? -1 : numberOf(s, item.items.get(0));
            case 3:
                if (item.parent == null) {
                    return -1;
                }
                int next = item.parent.items.indexOf(item) + 1;
                return next < item.parent.items.size() ? numberOf(s, item.parent.items.get(next)) : -1;
            case 4:
                return item.name.length;
            case 5:
                return item.value().length;
            case 6:
                return item.text.length;
            case 7:
                return item.items.size();
            case 8:
                return item.depth();
            default:
                return -1;
        }
    }

    long number(int s, int node) {
        Item item = node(s, node);
        return item == null ? 0 : item.number;
    }

    int letter(int s, int node, boolean text, int i) {
        Item item = node(s, node);
        if (item == null) {
            return -1;
        }
        byte[] letters = text ? item.text : item.name;
        return i >= 0 && i < letters.length ? letters[i] & 255 : -1;
    }

    int find(int s, int node, int n) {
        if (n < 0 || n > tape.length) {
            return -1;
        }
        byte[] name = Arrays.copyOf(tape, n);
        tape = new byte[0];
        Item item = node(s, node);
        Item found = item == null ? null : item.named(name);
        return found == null ? -1 : numberOf(s, found);
    }

    private static boolean may(int kind, long v) {
        return kind == 18 || (kind == 16 && v >= Integer.MIN_VALUE && v <= Integer.MAX_VALUE)
                || (kind == 8 && (v == 0 || v == 1));
    }

    int add(int s, int node, int kind, long v, int n, int m) {
        Item into = node(s, node);
        if (into == null || !into.holds() || n < 0 || m < 0 || (long) n + m > tape.length) {
            return -1;
        }
        Item item = new Item();
        item.kind = kind;
        item.number = v;
        item.name = Arrays.copyOf(tape, n);
        item.text = Arrays.copyOfRange(tape, n, n + m);
        tape = new byte[0];
        boolean isNumber = kind == 16 || kind == 18 || kind == 8;
        boolean isOther = kind == 2 || kind == 3 || kind == 4 || kind == 10;
        if (!(isNumber ? may(kind, v) : isOther && v == 0) || (m > 0 && kind != 2)) {
            return -2;
        }
        return put(s, into, item);
    }

    int graft(int s, int node, int t, int x, int n) {
        Item into = node(s, node);
        Item from = node(t, x);
        if (into == null || !into.holds() || from == null || n < 0 || n > tape.length) {
            return -1;
        }
        Item item = from.copy();
        item.name = Arrays.copyOf(tape, n);
        tape = new byte[0];
        return put(s, into, item);
    }

    private int put(int s, Item into, Item item) {
        if (into.kind == 4 && item.name.length > 0) {
            return -2;
        }
        if (into.kind == 4) {
            item.name = Check.utf8(Integer.toString(into.items.size()));
        }
        boolean zero = false;
        for (byte b : item.name) {
            zero |= b == 0;
        }
        if (zero || !right(item.name, 0, item.name.length) || !right(item.text, 0, item.text.length)
                || into.named(item.name) != null) {
            return -3;
        }
        if (into.depth() + item.height() > 16) {
            return -4;
        }
        into.put(item);
        if (slots[s].value().length > 2000) {
            into.items.remove(into.items.size() - 1);
            return -5;
        }
        return numberOf(s, item);
    }

    boolean set(int s, int node, long v) {
        Item item = node(s, node);
        if (item == null || !may(item.kind, v)) {
            return false;
        }
        item.number = v;
        return true;
    }

    boolean drop(int s, int node) {
        Item item = node(s, node);
        if (item == null || item.parent == null) {
            return false;
        }
        Item parent = item.parent;
        parent.items.remove(item);
        for (int i = 0; parent.kind == 4 && i < parent.items.size(); i++) {
            parent.items.get(i).name = Check.utf8(Integer.toString(i));
        }
        return true;
    }
}
