import java.util.Random;
import java.util.TreeMap;

/** Long runs of calls, from fixed seeds, on an object and on the model. */
final class ModelTest {
    private static final int RUNS = 900;
    // A step makes at most some seventy calls; what it leaves of the 512 goes to comparing bytes.
    private static final int CALLS_OF_STEPS = 430;
    private static final TreeMap<String, Integer> REFUSALS = new TreeMap<>();
    private static final int[] KINDS = {16, 18, 8, 10, 2, 3, 4, 3, 4};
    private static final int[] EDGES = {-1, 8, Integer.MIN_VALUE, Integer.MAX_VALUE, -2, 9, 21, 2001};

    private final Random random;
    private final DocumentBytes x = new DocumentBytes();
    private final Model model = new Model();
    private final long seed;
    private int calls = 0;

    private ModelTest(long seed) {
        this.seed = seed;
        this.random = new Random(seed);
    }

    public static void main(String[] args) {
        for (long seed = 1; seed <= RUNS && Check.wrongSoFar() == 0; seed++) {
            ModelTest test = new ModelTest(seed);
            test.start();
            while (test.calls < CALLS_OF_STEPS && Check.wrongSoFar() == 0) {
                test.step();
            }
            test.compareSlots();
        }
        eachRefusalWasMet();
        Check.finish();
    }

    private void due(String call, long got, long want) {
        calls++;
        Check.due("seed " + seed + ", call " + calls + ": " + call, got, want);
    }

    private void refusalOf(String method, long answer) {
        REFUSALS.merge(method + " " + answer, 1, Integer::sum);
    }

    /** The comparison is worth little where the runs never come to. */
    private static void eachRefusalWasMet() {
        for (int fault = 0; fault <= 8; fault++) {
            Check.due("read " + fault + " was met", REFUSALS.getOrDefault("read " + fault, 0) > 20, true);
        }
        for (int answer = -5; answer < 0; answer++) {
            Check.due("add " + answer + " was met", REFUSALS.getOrDefault("add " + answer, 0) > 20, true);
            Check.due("graft " + answer + " was met", REFUSALS.getOrDefault("graft " + answer, 0) > 20, true);
        }
    }

    /** Some runs begin near the bounds of bytes or of depth. */
    private void start() {
        if (seed % 5 == 1) {
            readInto(0, Check.documentOf(1700 + random.nextInt(301)));
        }
        if (seed % 5 == 2) {
            readInto(1, Check.nested(11 + random.nextInt(6)));
        }
        if (seed % 5 == 3) {
            readInto(0, Check.document(Check.longRow("r", 85 + random.nextInt(20))));
        }
    }

    private void readInto(int s, byte[] all) {
        feed(all);
        due("read(" + s + ", " + all.length + ")", x.read(s, all.length), model.read(s, all.length));
    }

    private void compareSlots() {
        for (int s = 0; s < 8; s++) {
            due("many(" + s + ", 0)", x.many(s, 0), model.many(s, 0));
        }
        while (calls < Recorded.MOST_CALLS) {
            int s = random.nextInt(seed % 3 == 0 ? 8 : 2);
            int i = random.nextInt(model.many(s, 0));
            due("byteAt(" + s + ", " + i + ")", x.byteAt(s, i), model.byteAt(s, i));
        }
        Check.due("seed " + seed + ": calls", calls, Recorded.MOST_CALLS);
    }

    private void step() {
        switch (random.nextInt(10)) {
            case 0:
                readDocument();
                break;
            case 1:
                look();
                break;
            case 2:
                letters();
                break;
            case 3:
                findName();
                break;
            case 4:
                drop();
                break;
            case 5:
                graft();
                break;
            case 6:
                set();
                break;
            default:
                add();
                break;
        }
    }

    private int odd(int usual) {
        return random.nextInt(40) == 0 ? EDGES[random.nextInt(EDGES.length)] : usual;
    }

    private int slot() {
        return odd(random.nextInt(seed % 3 == 0 ? 8 : 2));
    }

    private int node(int s) {
        int nodes = model.many(s, 1);
        return odd(random.nextInt(nodes < 1 ? 2 : nodes + (random.nextInt(8) == 0 ? 1 : 0)));
    }

    /** A node that may hold elements, as a rule; the deepest one often in runs that are about depth. */
    private int holder(int s) {
        if (seed % 5 == 2 && random.nextInt(3) == 0) {
            return deepest(s);
        }
        int node = node(s);
        for (int tries = 0; tries < 6 && model.look(s, node, 0) != 3 && model.look(s, node, 0) != 4; tries++) {
            node = node(s);
        }
        return node;
    }

    private int deepest(int s) {
        int deepest = 0;
        for (int node = 0; node < model.many(s, 1); node++) {
            boolean holds = model.look(s, node, 0) == 3 || model.look(s, node, 0) == 4;
            deepest = holds && model.look(s, node, 8) > model.look(s, deepest, 8) ? node : deepest;
        }
        return deepest;
    }

    private void feed(byte[] all) {
        for (int at = 0; at < all.length; at += 20) {
            int[] w = new int[5];
            for (int i = at; i < Math.min(at + 20, all.length); i++) {
                w[(i - at) / 4] |= (all[i] & 255) << (24 - 8 * (i % 4));
            }
            due("feed", x.feed(w[0], w[1], w[2], w[3], w[4]), model.feed(w));
        }
    }

    private byte[] letters(int most) {
        byte[] letters = new byte[0];
        int count = random.nextInt(most + 1);
        for (int i = 0; i < count; i++) {
            int point = random.nextInt(4) > 0 ? 'a' + random.nextInt(4)
                    : new int[] {0x7F, 0x80, 0x7FF, 0x800, 0xD7FF, 0xE000, 0xFFFF, 0x10000, 0x10FFFF}[random.nextInt(9)];
            letters = Check.join(letters, Check.utf8(Character.toString(point)));
        }
        if (letters.length > 0 && random.nextInt(20) == 0) {
            letters[random.nextInt(letters.length)] = (byte) random.nextInt(256);
        }
        return letters;
    }

    private byte[] element(int depth, byte[] name, int budget) {
        int kind = KINDS[random.nextInt(KINDS.length)];
        switch (kind) {
            case 16:
                return Check.element(kind, name, Check.little(random.nextInt(), 4));
            case 18:
                return Check.element(kind, name, Check.little(random.nextLong(), 8));
            case 8:
                return Check.element(kind, name, Check.bytes(random.nextInt(random.nextInt(40) == 0 ? 256 : 2)));
            case 10:
                return Check.element(kind, name, Check.bytes());
            case 2:
                byte[] letters = letters(5);
                return Check.element(kind, name, Check.join(Check.little(letters.length + 1, 4), letters, new byte[1]));
            default:
                return Check.element(kind, name, document(depth + 1, kind == 4, budget));
        }
    }

    private byte[] document(int depth, boolean row, int budget) {
        byte[] inner = new byte[0];
        int count = depth > 17 ? 0 : random.nextInt(row ? 13 : 5);
        for (int i = 0; i < count && inner.length < budget; i++) {
            byte[] name = row ? Check.utf8(String.valueOf(i)) : Check.join(letters(2), Check.utf8(i + ""));
            inner = Check.join(inner, element(depth, name, budget - inner.length));
        }
        return Check.document(inner);
    }

    private void readDocument() {
        byte[] all = document(1, false, 20 + random.nextInt(160));
        if (all.length > 400) {
            all = Check.document();
        }
        int faults = random.nextInt(3) == 0 ? random.nextInt(3) : 0;
        for (int i = 0; i < faults; i++) {
            int at = random.nextInt(all.length);
            all[at] = (byte) (random.nextBoolean() ? random.nextInt(256) : all[at] + random.nextInt(3) - 1);
        }
        feed(all);
        // The slot that start() filled is to stay near the bound.
        int s = seed % 5 == 0 || seed % 5 == 4 ? slot() : 2 + random.nextInt(6);
        int n = odd(all.length);
        int fault = model.read(s, n);
        due("read(" + s + ", " + n + ")", x.read(s, n), fault);
        due("place()", x.place(), model.place());
        refusalOf("read", fault);
    }

    private void look() {
        int s = slot();
        int node = node(s);
        for (int what = -1; what < 10; what++) {
            due("look(" + s + ", " + node + ", " + what + ")", x.look(s, node, what), model.look(s, node, what));
        }
        int i = odd(random.nextInt(60));
        due("byteAt(" + s + ", " + i + ")", x.byteAt(s, i), model.byteAt(s, i));
        for (int what = -1; what < 4; what++) {
            due("many(" + s + ", " + what + ")", x.many(s, what), model.many(s, what));
        }
    }

    private void letters() {
        int s = slot();
        int node = node(s);
        int i = odd(random.nextInt(4));
        due("letter", x.letter(s, node, true, i), model.letter(s, node, true, i));
        due("letter", x.letter(s, node, false, i), model.letter(s, node, false, i));
        due("number(" + s + ", " + node + ")", x.number(s, node), model.number(s, node));
    }

    /** The name of an element of that node, as a rule. */
    private byte[] nameIn(int s, int node) {
        int kid = model.look(s, node, 2);
        for (int i = random.nextInt(4); i > 0 && model.look(s, kid, 3) > 0; i--) {
            kid = model.look(s, kid, 3);
        }
        int length = model.look(s, kid, 4);
        if (kid < 0 || length < 0 || random.nextInt(4) == 0) {
            return letters(3);
        }
        byte[] name = new byte[length];
        for (int i = 0; i < length; i++) {
            name[i] = (byte) model.letter(s, kid, false, i);
        }
        return name;
    }

    private void findName() {
        int s = slot();
        int node = holder(s);
        byte[] name = nameIn(s, node);
        feed(name);
        int n = odd(name.length);
        due("find(" + s + ", " + node + ", " + n + ")", x.find(s, node, n), model.find(s, node, n));
    }

    private void drop() {
        int s = slot();
        boolean nearABound = seed % 5 > 0 && seed % 5 < 4 && random.nextInt(8) > 0;
        int node = nearABound ? model.many(s, 1) - 1 : node(s);
        due("drop(" + s + ", " + node + ")", x.drop(s, node) ? 1 : 0, model.drop(s, node) ? 1 : 0);
    }

    private long value(int kind) {
        switch (random.nextInt(10)) {
            case 0:
                return random.nextLong();
            case 1:
                return random.nextInt();
            case 2:
                return 2;
            default:
                return kind == 8 ? random.nextInt(2) : kind == 16 ? random.nextInt() : kind == 18 ? random.nextLong() : 0;
        }
    }

    private void set() {
        int s = slot();
        int node = node(s);
        long v = value(model.look(s, node, 0));
        due("set(" + s + ", " + node + ", " + v + ")", x.set(s, node, v) ? 1 : 0, model.set(s, node, v) ? 1 : 0);
    }

    private byte[] newName(int s, int node) {
        if (model.look(s, node, 0) == 4 && random.nextInt(10) > 0) {
            return new byte[0];
        }
        return random.nextInt(6) == 0 ? nameIn(s, node) : letters(4);
    }

    private void graft() {
        int s = slot();
        int node = holder(s);
        int t = slot();
        int from = node(t);
        byte[] name = newName(s, node);
        feed(name);
        int n = odd(name.length);
        int answer = model.graft(s, node, t, from, n);
        due("graft(" + s + ", " + node + ", " + t + ", " + from + ", " + n + ")", x.graft(s, node, t, from, n), answer);
        refusalOf("graft", answer);
    }

    private void add() {
        int s = slot();
        int node = holder(s);
        int kind = odd(KINDS[random.nextInt(KINDS.length)]);
        byte[] name = newName(s, node);
        byte[] text = kind == 2 || random.nextInt(20) == 0 ? letters(random.nextInt(10) == 0 ? 240 : 6) : new byte[0];
        feed(Check.join(name, text));
        long v = value(kind);
        int n = odd(name.length);
        int m = odd(text.length);
        int answer = model.add(s, node, kind, v, n, m);
        due("add(" + s + ", " + node + ", " + kind + ", " + v + ", " + n + ", " + m + ")",
                x.add(s, node, kind, v, n, m), answer);
        refusalOf("add", answer);
    }
}
