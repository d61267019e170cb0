import java.util.Arrays;

/** Documents as bytes: read into nodes or refused at the first fault, looked at, built, changed, told as bytes. */
public final class DocumentBytes {
    private static final int NONE = -1;

    private static final int SLOTS = 8;
    private static final int MOST_BYTES = 2000;
    private static final int MOST_DEEP = 16;
    // No document has more than 666: an element has three bytes at least, but for the one without a name that each
    // document may have, and a document in another has five more.
    private static final int MOST_NODES = 700;
    private static final int FEED_BYTES = 20;

    private static final int SIZE_BYTES = 4;
    private static final int EMPTY_DOCUMENT = SIZE_BYTES + 1;
    // What a text's value has beside its letters: n ahead of them, a byte 0 behind them.
    private static final int TEXT_FRAME = SIZE_BYTES + 1;
    // What an element has beside its name and value: its kind, and the byte 0 behind its name.
    private static final int ELEMENT_FRAME = 2;
    private static final int NAME_OF_NODE_0 = -1;

    private static final int TEXT = 2;
    private static final int DOCUMENT = 3;
    private static final int ROW = 4;
    private static final int TRUTH = 8;
    private static final int NOTHING = 10;
    private static final int WHOLE_32 = 16;
    private static final int WHOLE_64 = 18;

    private static final int FAULT_SHORT = 1;
    private static final int FAULT_BOUNDS = 2;
    private static final int FAULT_KIND = 3;
    private static final int FAULT_UTF8 = 4;
    private static final int FAULT_TRUTH = 5;
    private static final int FAULT_TEXT = 6;
    private static final int FAULT_NAME = 7;
    private static final int FAULT_DEEP = 8;

    private static final int BAD_ARGUMENT = -2;
    private static final int BAD_LETTERS = -3;
    private static final int TOO_DEEP = -4;
    private static final int TOO_LONG = -5;

    private final Bytes tape;
    private final Bytes[] slots;
    // The value of the element that add() or graft() is about to write, away from the slot that it may come from.
    private final Bytes fresh;
    // The nodes of one slot at a time, the one that `scanned` names, so that eight tables need not be kept.
    private final Nodes nodes;
    private final Reader reader;
    private int scanned;
    private int faultPlace;

    public DocumentBytes() {
        tape = new Bytes(MOST_BYTES);
        fresh = new Bytes(MOST_BYTES + TEXT_FRAME);
        slots = new Bytes[SLOTS];
        for (int s = 0; s < SLOTS; s++) {
            slots[s] = new Bytes(MOST_BYTES);
            slots[s].appendEmptyDocument();
        }
        nodes = new Nodes(tape);
        reader = new Reader(nodes, tape);
        scanned = NONE;
        faultPlace = NONE;
    }

    public int feed(int a, int b, int c, int d, int e) {
        if (tape.size() > MOST_BYTES - FEED_BYTES) {
            return NONE;
        }
        tape.appendHighestFirst(a);
        tape.appendHighestFirst(b);
        tape.appendHighestFirst(c);
        tape.appendHighestFirst(d);
        tape.appendHighestFirst(e);
        return tape.size();
    }

    public int read(int s, int n) {
        if (!isSlot(s) || !tape.has(n, 0)) {
            return NONE;
        }
        scanned = NONE;
        int fault = reader.readAll(n);
        faultPlace = reader.faultPlace();
        if (fault == 0) {
            slots[s].clear();
            slots[s].appendFrom(tape, 0, n);
        }
        tape.clear();
        return fault;
    }

    public int place() {
        return faultPlace;
    }

    public int many(int s, int what) {
        if (!hasNode(s, 0)) {
            return NONE;
        }
        switch (what) {
            case 0:
                return slots[s].size();
            case 1:
                return nodes.count();
            case 2:
                return nodes.deepestIn(0);
            default:
                return NONE;
        }
    }

    public int byteAt(int s, int i) {
        return isSlot(s) ? slots[s].get(i) : NONE;
    }

    public int look(int s, int node, int what) {
        if (!hasNode(s, node)) {
            return NONE;
        }
        switch (what) {
            case 0:
                return nodes.kind(node);
            case 1:
                return nodes.parent(node);
            case 2:
                return nodes.elements(node) > 0 ? node + 1 : NONE;
            case 3:
                return nodes.nextBeside(node);
            case 4:
                return nodes.nameLength(node);
            case 5:
                return nodes.valueLength(node);
            case 6:
                return nodes.textLength(node);
            case 7:
                return nodes.elements(node);
            case 8:
                return nodes.depth(node);
            default:
                return NONE;
        }
    }

    public long number(int s, int node) {
        if (!hasNode(s, node)) {
            return 0;
        }
        int kind = nodes.kind(node);
        long bits = slots[s].numberAt(nodes.value(node), Kinds.width(kind));
        return kind == WHOLE_32 ? (int) bits : bits;
    }

    public int letter(int s, int node, boolean text, int i) {
        if (!hasNode(s, node) || i < 0) {
            return NONE;
        }
        int length = text ? nodes.textLength(node) : nodes.nameLength(node);
        int first = text ? nodes.value(node) + SIZE_BYTES : nodes.name(node);
        return i < length ? slots[s].get(first + i) : NONE;
    }

    public int find(int s, int node, int n) {
        if (!tape.has(n, 0)) {
            return NONE;
        }
        int found = hasNode(s, node) ? nodes.named(node, tape, 0, n) : NONE;
        tape.clear();
        return found;
    }

    public int add(int s, int node, int kind, long v, int n, int m) {
        if (!mayHold(s, node) || !tape.has(n, m)) {
            return NONE;
        }
        int answer = addFromTape(s, node, kind, v, n, m);
        tape.clear();
        return answer;
    }

    public int graft(int s, int node, int t, int x, int n) {
        if (!tape.has(n, 0) || !hasNode(t, x)) {
            return NONE;
        }
        int kind = nodes.kind(x);
        int levels = nodes.levels(x);
        fresh.clear();
        fresh.appendFrom(slots[t], nodes.value(x), nodes.valueLength(x));
        if (!mayHold(s, node)) {
            return NONE;
        }
        int answer = nameCountFits(node, n) ? insertFresh(s, node, kind, n, levels) : BAD_ARGUMENT;
        tape.clear();
        return answer;
    }

    public boolean set(int s, int node, long v) {
        if (!hasNode(s, node)) {
            return false;
        }
        int kind = nodes.kind(node);
        int width = Kinds.width(kind);
        if (width == 0 || !Kinds.allows(kind, v)) {
            return false;
        }
        slots[s].putNumber(nodes.value(node), width, v);
        return true;
    }

    public boolean drop(int s, int node) {
        if (node == 0 || !hasNode(s, node)) {
            return false;
        }
        Bytes document = slots[s];
        int before = document.size();
        int parent = nodes.parent(node);
        if (nodes.kind(parent) == ROW) {
            renumberBehind(document, parent, node);
        }
        int start = nodes.name(node) - 1;
        document.cut(start, nodes.lastByte(node) + 1 - start);
        resizeUpwards(document, parent, document.size() - before);
        scanned = NONE;
        return true;
    }

    private static boolean isSlot(int s) {
        return s >= 0 && s < SLOTS;
    }

    /** Whether there is such a node; if so, `nodes` tells of that slot afterwards. */
    private boolean hasNode(int s, int node) {
        if (!isSlot(s)) {
            return false;
        }
        if (scanned != s) {
            nodes.scan(slots[s]);
            scanned = s;
        }
        return node >= 0 && node < nodes.count();
    }

    private boolean mayHold(int s, int node) {
        return hasNode(s, node) && Kinds.holdsElements(nodes.kind(node));
    }

    private int addFromTape(int s, int node, int kind, long v, int n, int m) {
        boolean textCountFits = m == 0 || kind == TEXT;
        if (!Kinds.isKind(kind) || !Kinds.allows(kind, v) || !nameCountFits(node, n) || !textCountFits) {
            return BAD_ARGUMENT;
        }
        if (Utf8.firstWrong(tape, n, n + m) != NONE) {
            return BAD_LETTERS;
        }
        fresh.clear();
        if (kind == TEXT) {
            fresh.appendText(tape, n, m);
        } else if (Kinds.holdsElements(kind)) {
            fresh.appendEmptyDocument();
        } else {
            fresh.appendNumber(v, Kinds.width(kind));
        }
        return insertFresh(s, node, kind, n, Kinds.holdsElements(kind) ? 1 : 0);
    }

    private boolean nameCountFits(int node, int n) {
        return n == 0 || nodes.kind(node) != ROW;
    }

    /** Puts an element with the value in `fresh`, itself so many levels high, behind the others of a node. */
    private int insertFresh(int s, int node, int kind, int n, int levels) {
        boolean inRow = nodes.kind(node) == ROW;
        if (!inRow && !isFreeName(node, n)) {
            return BAD_LETTERS;
        }
        if (nodes.depth(node) + levels > MOST_DEEP) {
            return TOO_DEEP;
        }
        int nameLength = inRow ? Bytes.digits(nodes.elements(node)) : n;
        int length = ELEMENT_FRAME + nameLength + fresh.size();
        if (slots[s].size() + length > MOST_BYTES) {
            return TOO_LONG;
        }
        int newNode = nodes.behind(node);
        writeFresh(slots[s], node, kind, nameLength);
        resizeUpwards(slots[s], node, length);
        scanned = NONE;
        return newNode;
    }

    private void writeFresh(Bytes document, int node, int kind, int nameLength) {
        int start = nodes.lastByte(node);
        int name = start + 1;
        int value = name + nameLength + 1;
        boolean inRow = nodes.kind(node) == ROW;
        document.openGap(start, ELEMENT_FRAME + nameLength + fresh.size());
        document.put(start, kind);
        if (inRow) {
            document.putDecimal(name, nameLength, nodes.elements(node));
        } else {
            document.putFrom(name, tape, 0, nameLength);
        }
        document.put(value - 1, 0);
        document.putFrom(value, fresh, 0, fresh.size());
    }

    private boolean isFreeName(int node, int n) {
        return tape.firstZero(0, n) == NONE
                && Utf8.firstWrong(tape, 0, n) == NONE
                && nodes.named(node, tape, 0, n) == NONE;
    }

    /** From the last one back, so that the table's offsets of those ahead still hold when a name gets shorter. */
    private void renumberBehind(Bytes document, int row, int node) {
        int index = nodes.elements(row) - 1;
        for (int i = nodes.behind(row) - 1; i > node; i--) {
            if (nodes.parent(i) == row) {
                index--;
                int length = Bytes.digits(index);
                document.cut(nodes.name(i), nodes.nameLength(i) - length);
                document.putDecimal(nodes.name(i), length, index);
            }
        }
    }

    /** The SIZE of a node and of all that it stands in changes; all of them stand ahead of what moved. */
    private void resizeUpwards(Bytes document, int node, int change) {
        int around = node;
        for (int level = 0; level < MOST_DEEP && around >= 0; level++) {
            int at = nodes.value(around);
            document.putNumber(at, SIZE_BYTES, document.numberAt(at, SIZE_BYTES) + change);
            around = nodes.parent(around);
        }
    }

    /** What the kinds of elements have and allow. */
    private static final class Kinds {
        static boolean isKind(int kind) {
            return kind == TEXT || kind == NOTHING || holdsElements(kind) || width(kind) > 0;
        }

        static boolean holdsElements(int kind) {
            return kind == DOCUMENT || kind == ROW;
        }

        /** The bytes of a number or a truth, 0 for other kinds. */
        static int width(int kind) {
            switch (kind) {
                case TRUTH:
                    return 1;
                case WHOLE_32:
                    return 4;
                case WHOLE_64:
                    return 8;
                default:
                    return 0;
            }
        }

        /** The bytes of a right value that begins there. */
        static int valueLength(int kind, Bytes bytes, int at) {
            if (kind == TEXT) {
                return SIZE_BYTES + (int) bytes.numberAt(at, SIZE_BYTES);
            }
            return holdsElements(kind) ? (int) bytes.numberAt(at, SIZE_BYTES) : width(kind);
        }

        /** Whether a number or truth may be v; other kinds go with 0. */
        static boolean allows(int kind, long v) {
            switch (kind) {
                case TRUTH:
                    return v == 0 || v == 1;
                case WHOLE_32:
                    return v == (int) v;
                case WHOLE_64:
                    return true;
                default:
                    return v == 0;
            }
        }
    }

    /** Which bytes are right UTF-8. */
    private static final class Utf8 {
        /** The first byte of what is not right, from `from` on and ahead of `to`, or NONE. */
        static int firstWrong(Bytes bytes, int from, int to) {
            int at = from;
            for (int steps = from; steps < to && at < to; steps++) {
                int length = lengthBehind(bytes.get(at));
                if (length == 0 || length > to - at || !isRight(bytes, at, length)) {
                    return at;
                }
                at += length;
            }
            return NONE;
        }

        /** How many bytes a letter with this first byte has, 0 when none begins so (128 .. 193: too long a form). */
        static int lengthBehind(int first) {
            if (first < 128) {
                return 1;
            }
            if (first < 194 || first > 244) {
                return 0;
            }
            return first < 224 ? 2 : first < 240 ? 3 : 4;
        }

        /** The second byte keeps out longer forms (224, 240), 55296 .. 57343 (237), and more than 1114111 (244). */
        static boolean isRight(Bytes bytes, int at, int length) {
            int first = bytes.get(at);
            int lowest = first == 224 ? 160 : first == 240 ? 144 : 128;
            int highest = first == 237 ? 159 : first == 244 ? 143 : 191;
            for (int i = 1; i < length; i++) {
                int next = bytes.get(at + i);
                if (next < lowest || next > highest) {
                    return false;
                }
                lowest = 128;
                highest = 191;
            }
            return true;
        }
    }

    /** A row of bytes. It starts small and grows once, since most objects use few of their rows. */
    private static final class Bytes {
        private static final int FIRST_ROOM = 64;

        private final int most;
        private byte[] row;
        private int size;

        Bytes(int most) {
            this.most = most;
            this.row = new byte[FIRST_ROOM];
            this.size = 0;
        }

        int size() {
            return size;
        }

        void clear() {
            size = 0;
        }

        /** Whether there are n bytes and m more. */
        boolean has(int n, int m) {
            return n >= 0 && m >= 0 && n <= size && m <= size - n;
        }

        int get(int i) {
            return i >= 0 && i < size ? row[i] & 255 : NONE;
        }

        void put(int i, int value) {
            if (i >= 0 && i < size) {
                row[i] = (byte) value;
            }
        }

        /** The first byte 0 from `from` on and ahead of `to`, or NONE. */
        int firstZero(int from, int to) {
            for (int i = from; i < to; i++) {
                if (get(i) == 0) {
                    return i;
                }
            }
            return NONE;
        }

        /** The bytes as a number without sign, but for one of eight bytes. */
        long numberAt(int at, int width) {
            long bits = 0;
            for (int i = width - 1; i >= 0; i--) {
                bits = (bits << 8) | (get(at + i) & 255);
            }
            return bits;
        }

        void putNumber(int at, int width, long bits) {
            for (int i = 0; i < width; i++) {
                put(at + i, (int) (bits >> (8 * i)));
            }
        }

        static int digits(int index) {
            return index < 10 ? 1 : index < 100 ? 2 : index < 1000 ? 3 : 4;
        }

        void putDecimal(int at, int length, int index) {
            int rest = index;
            for (int i = length - 1; i >= 0; i--) {
                put(at + i, '0' + rest % 10);
                rest /= 10;
            }
        }

        boolean hasDecimal(int at, int length, int index) {
            int rest = index;
            for (int i = length - 1; i >= 0; i--) {
                if (get(at + i) != '0' + rest % 10) {
                    return false;
                }
                rest /= 10;
            }
            return length == digits(index);
        }

        boolean equalsAt(int at, Bytes other, int from, int length) {
            for (int i = 0; i < length; i++) {
                if (get(at + i) != other.get(from + i)) {
                    return false;
                }
            }
            return true;
        }

        void openGap(int at, int length) {
            if (at < 0 || at > size || length < 0 || length > most - size) {
                return;
            }
            if (size + length > row.length) {
                row = Arrays.copyOf(row, most);
            }
            System.arraycopy(row, at, row, at + length, size - at);
            size += length;
        }

        void cut(int at, int length) {
            if (at < 0 || length < 0 || at > size - length) {
                return;
            }
            System.arraycopy(row, at + length, row, at, size - at - length);
            size -= length;
        }

        void putFrom(int at, Bytes other, int from, int length) {
            if (at < 0 || from < 0 || length < 0 || at > size - length || from > other.size - length) {
                return;
            }
            System.arraycopy(other.row, from, row, at, length);
        }

        void appendFrom(Bytes other, int from, int length) {
            int at = size;
            openGap(at, length);
            putFrom(at, other, from, length);
        }

        void appendNumber(long bits, int width) {
            int at = size;
            openGap(at, width);
            putNumber(at, width, bits);
        }

        void appendHighestFirst(int bits) {
            int at = size;
            openGap(at, 4);
            for (int i = 0; i < 4; i++) {
                put(at + i, bits >> (24 - 8 * i));
            }
        }

        void appendEmptyDocument() {
            appendNumber(EMPTY_DOCUMENT, SIZE_BYTES);
            appendNumber(0, 1);
        }

        void appendText(Bytes other, int from, int length) {
            appendNumber(length + 1, SIZE_BYTES);
            appendFrom(other, from, length);
            appendNumber(0, 1);
        }
    }

    /** The nodes of a document in the order of their bytes: where each one stands, and in what. */
    private static final class Nodes {
        private final int[] kinds;
        private final int[] parents;
        private final int[] depths;
        // Where the name and the value begin; node 0 has no name, as if one without bytes stood ahead of the document.
        private final int[] names;
        private final int[] values;
        private final int[] valueLengths;
        private final int[] elementCounts;
        private Bytes document;
        private int count;

        Nodes(Bytes document) {
            this.kinds = new int[MOST_NODES];
            this.parents = new int[MOST_NODES];
            this.depths = new int[MOST_NODES];
            this.names = new int[MOST_NODES];
            this.values = new int[MOST_NODES];
            this.valueLengths = new int[MOST_NODES];
            this.elementCounts = new int[MOST_NODES];
            this.document = document;
            this.count = 0;
        }

        void begin(Bytes bytes) {
            document = bytes;
            count = 0;
        }

        int append(int kind, int parent, int name, int value, int valueLength) {
            if (count >= MOST_NODES) {
                return NONE;
            }
            int node = count;
            count++;
            kinds[node] = kind;
            parents[node] = parent;
            depths[node] = Kinds.holdsElements(kind) ? 1 : 0;
            names[node] = name;
            values[node] = value;
            valueLengths[node] = valueLength;
            elementCounts[node] = 0;
            if (parent >= 0 && parent < node) {
                depths[node] += depths[parent];
                elementCounts[parent]++;
            }
            return node;
        }

        /** The nodes of bytes that are known to be right. */
        void scan(Bytes bytes) {
            begin(bytes);
            int inside = append(DOCUMENT, NONE, NAME_OF_NODE_0, 0, bytes.size());
            int at = SIZE_BYTES;
            for (int steps = 0; steps < MOST_BYTES && inside >= 0; steps++) {
                if (at >= lastByte(inside)) {
                    at++;
                    inside = parent(inside);
                } else {
                    int kind = bytes.get(at);
                    int value = bytes.firstZero(at + 1, bytes.size()) + 1;
                    int length = Kinds.valueLength(kind, bytes, value);
                    int node = append(kind, inside, at + 1, value, length);
                    boolean opens = Kinds.holdsElements(kind);
                    at = value + (opens ? SIZE_BYTES : length);
                    inside = opens ? node : inside;
                }
            }
        }

        int count() {
            return count;
        }

        private int cell(int[] cells, int node) {
            return node >= 0 && node < count && node < cells.length ? cells[node] : NONE;
        }

        int kind(int node) {
            return cell(kinds, node);
        }

        int parent(int node) {
            return cell(parents, node);
        }

        int depth(int node) {
            return cell(depths, node);
        }

        int name(int node) {
            return cell(names, node);
        }

        int nameLength(int node) {
            return cell(values, node) - 1 - cell(names, node);
        }

        int value(int node) {
            return cell(values, node);
        }

        int valueLength(int node) {
            return cell(valueLengths, node);
        }

        int textLength(int node) {
            return cell(kinds, node) == TEXT ? cell(valueLengths, node) - TEXT_FRAME : 0;
        }

        int elements(int node) {
            return cell(elementCounts, node);
        }

        int lastByte(int node) {
            return cell(values, node) + cell(valueLengths, node) - 1;
        }

        /** The first number behind a node and all that is in it. */
        int behind(int node) {
            for (int i = node + 1; i < count; i++) {
                if (cell(parents, i) < node) {
                    return i;
                }
            }
            return count;
        }

        int nextBeside(int node) {
            int next = behind(node);
            return next < count && parent(next) == parent(node) ? next : NONE;
        }

        int deepestIn(int node) {
            int deepest = depth(node);
            int end = behind(node);
            for (int i = node + 1; i < end; i++) {
                deepest = Math.max(deepest, depth(i));
            }
            return deepest;
        }

        /** How many documents and rows stand in one another in a node, itself included. */
        int levels(int node) {
            int itself = Kinds.holdsElements(kind(node)) ? 1 : 0;
            return deepestIn(node) - depth(node) + itself;
        }

        /** The element of a node with this name, or NONE. */
        int named(int node, Bytes bytes, int from, int length) {
            for (int i = node + 1; i < count; i++) {
                if (parent(i) == node && nameLength(i) == length
                        && document.equalsAt(name(i), bytes, from, length)) {
                    return i;
                }
            }
            return NONE;
        }
    }

    /** Reads bytes of the tape into nodes, up to the first fault. */
    private static final class Reader {
        private final Nodes nodes;
        private final Bytes bytes;
        // The next byte to be read, and the document or row whose element or last byte it is.
        private int at;
        private int inside;
        private int fault;
        private int faultPlace;

        Reader(Nodes nodes, Bytes bytes) {
            this.nodes = nodes;
            this.bytes = bytes;
            this.at = 0;
            this.inside = NONE;
            this.fault = 0;
            this.faultPlace = NONE;
        }

        int faultPlace() {
            return faultPlace;
        }

        /** The fault of the first so many bytes, or 0. */
        int readAll(int length) {
            fault = 0;
            faultPlace = NONE;
            at = 0;
            inside = NONE;
            nodes.begin(bytes);
            readSize(DOCUMENT, NAME_OF_NODE_0, length);
            for (int steps = 0; steps < MOST_BYTES && fault == 0 && inside >= 0; steps++) {
                int last = nodes.lastByte(inside);
                if (at >= last) {
                    readLastByte();
                } else {
                    readElement(last);
                }
            }
            return fault;
        }

        private void refuse(int newFault, int newPlace) {
            fault = newFault;
            faultPlace = newPlace;
        }

        private void readLastByte() {
            if (bytes.get(at) != 0) {
                refuse(FAULT_BOUNDS, at);
                return;
            }
            at++;
            inside = nodes.parent(inside);
        }

        /** An element of what has its last byte at `last`. */
        private void readElement(int last) {
            int kind = bytes.get(at);
            if (!Kinds.isKind(kind)) {
                refuse(kind == 0 ? FAULT_BOUNDS : FAULT_KIND, at);
                return;
            }
            at++;
            int name = at;
            readName(last);
            if (fault != 0) {
                return;
            }
            if (Kinds.holdsElements(kind)) {
                readSize(kind, name, last - at);
                return;
            }
            int value = at;
            if (kind == TEXT) {
                readText(last - at);
            } else {
                readNumber(kind, last - at);
            }
            nodes.append(kind, inside, name, value, at - value);
        }

        private void readName(int last) {
            int end = bytes.firstZero(at, last);
            if (end == NONE) {
                refuse(FAULT_SHORT, at);
                return;
            }
            int wrong = Utf8.firstWrong(bytes, at, end);
            if (wrong != NONE) {
                refuse(FAULT_UTF8, wrong);
                return;
            }
            boolean mayCome = nodes.kind(inside) == ROW
                    ? bytes.hasDecimal(at, end - at, nodes.elements(inside))
                    : nodes.named(inside, bytes, at, end - at) == NONE;
            if (mayCome) {
                at = end + 1;
            } else {
                refuse(FAULT_NAME, at);
            }
        }

        private void readSize(int kind, int name, int left) {
            if (left < SIZE_BYTES) {
                refuse(FAULT_SHORT, at);
                return;
            }
            long size = bytes.numberAt(at, SIZE_BYTES);
            boolean isWhole = inside == NONE;
            if (size < EMPTY_DOCUMENT || (isWhole && size < left)) {
                refuse(FAULT_BOUNDS, at);
            } else if (size > left) {
                refuse(FAULT_SHORT, at);
            } else if (nodes.depth(inside) >= MOST_DEEP) {
                refuse(FAULT_DEEP, at);
            } else {
                inside = nodes.append(kind, inside, name, at, (int) size);
                at += SIZE_BYTES;
            }
        }

        private void readText(int left) {
            if (left < SIZE_BYTES) {
                refuse(FAULT_SHORT, at);
                return;
            }
            long n = bytes.numberAt(at, SIZE_BYTES);
            if (n < 1 || n > left - SIZE_BYTES) {
                refuse(n < 1 ? FAULT_TEXT : FAULT_SHORT, at);
                return;
            }
            int first = at + SIZE_BYTES;
            int end = first + (int) n - 1;
            if (bytes.get(end) != 0) {
                refuse(FAULT_TEXT, end);
                return;
            }
            int wrong = Utf8.firstWrong(bytes, first, end);
            if (wrong != NONE) {
                refuse(FAULT_UTF8, wrong);
            } else {
                at = end + 1;
            }
        }

        private void readNumber(int kind, int left) {
            int width = Kinds.width(kind);
            if (left < width) {
                refuse(FAULT_SHORT, at);
            } else if (kind == TRUTH && bytes.get(at) > 1) {
                refuse(FAULT_TRUTH, at);
            } else {
                at += width;
            }
        }
    }
}
