import java.lang.management.ManagementFactory;

/** An object is used for at most 512 calls: each of them holds, up to the last, and takes little room. */
final class WhatItIsTest extends Check {
    private static final int MOST = Recorded.MOST_CALLS;

    public static void main(String[] args) {
        sentence("What it is: at most 512 calls: feed, full and refused", WhatItIsTest::feeds);
        sentence("What it is: at most 512 calls: add, until the document is full", WhatItIsTest::adds);
        sentence("What it is: at most 512 calls: graft and drop by turns", WhatItIsTest::grafts);
        sentence("What it is: at most 512 calls: read, with and without faults", WhatItIsTest::reads);
        sentence("What it is: at most 512 calls: set", WhatItIsTest::sets);
        sentence("What it is: at most 512 calls: the 512th is answered as any other", WhatItIsTest::the512th);
        sentence("What it is: at most 512 calls: the dearest of them take little room", WhatItIsTest::room);
        finish();
    }

    private static void feeds() {
        Recorded x = new Recorded();
        for (int i = 1; i <= MOST; i++) {
            due("call " + i, x.feed(i, i, i, i, i), i <= 100 ? 20 * i : -1);
        }
    }

    private static void adds() {
        Recorded x = new Recorded();
        due("a row", x.add(0, 0, 4, 0, 0, 0), 1);
        // 12 bytes are there; 10 names of one digit, 90 of two, and 319 of three make 2,000 of them, but for 3.
        for (int i = 0; i < MOST - 1; i++) {
            due("element " + i, x.add(0, 1, 10, 0, 0, 0), i < 419 ? i + 2 : -5);
        }
    }

    private static void grafts() {
        Recorded x = new Recorded();
        due("a row", x.add(0, 0, 4, 0, 0, 0), 1);
        for (int i = 1; i + 1 < MOST; i += 2) {
            due("call " + i, x.graft(0, 1, 1, 0, 0), 2);
            due("call " + (i + 1), x.drop(0, 2), 1);
        }
        due("call 512", x.many(0, 1), 2);
    }

    private static void reads() {
        Recorded x = new Recorded();
        for (int i = 0; i < MOST / 4; i++) {
            int size = i % 3 == 0 ? 4 : 5;
            x.feed(size << 24, 0, 0, 0, 0);
            due("read " + i, x.read(i % 8, 5), size == 4 ? 2 : 0);
            due("place " + i, x.place(), size == 4 ? 0 : -1);
            due("bytes " + i, x.many(i % 8, 0), 5);
        }
    }

    private static void sets() {
        Recorded x = new Recorded();
        due("a number", x.add(0, 0, 18, 0, 0, 0), 1);
        for (int i = 1; i + 1 < MOST; i += 2) {
            due("set", x.set(0, 1, (long) i << 32), 1);
            due("number", x.number(0, 1), (long) i << 32);
        }
    }

    /** An object with a document of two elements, a byte on the tape, and one call left. */
    private static Recorded lastCallOf() {
        Recorded x = with(document(whole("a", 7), text("b", utf8("c"))));
        x.feedAll(utf8("b"));
        for (int i = x.callsLeft(); i > 1; i--) {
            x.byteAt(i % 8, i);
        }
        return x;
    }

    private static void the512th() {
        due("feed", lastCallOf().feed(1, 2, 3, 4, 5), 40);
        due("read", lastCallOf().read(1, 20), 1);
        due("place", lastCallOf().place(), -1);
        due("many", lastCallOf().many(0, 1), 3);
        due("byteAt", lastCallOf().byteAt(0, 5), 'a');
        due("look", lastCallOf().look(0, 2, 6), 1);
        due("number", lastCallOf().number(0, 1), 7);
        due("letter", lastCallOf().letter(0, 2, true, 0), 'c');
        due("find", lastCallOf().find(0, 0, 1), 2);
        due("add", lastCallOf().add(0, 0, 10, 0, 0, 0), 3);
        due("graft", lastCallOf().graft(1, 0, 0, 0, 1), 1);
        due("set", lastCallOf().set(0, 1, 8), 1);
        due("drop", lastCallOf().drop(0, 1), 1);
    }

    private static long allocated() {
        return ((com.sun.management.ThreadMXBean) ManagementFactory.getThreadMXBean()).getCurrentThreadAllocatedBytes();
    }

    private static void room() {
        byte[] crowd = crowd();
        int[] words = new int[500];
        for (int i = 0; i < crowd.length; i++) {
            words[i / 4] |= (crowd[i] & 255) << (24 - 8 * (i % 4));
        }
        dearest(words, crowd.length);
        long before = allocated();
        dearest(words, crowd.length);
        long used = allocated() - before;
        due("less than 64 KiB for an object and 512 calls, not " + used, used < 65536, true);
    }

    private static void dearest(int[] words, int length) {
        DocumentBytes x = new DocumentBytes();
        for (int i = 0; i < 500; i += 5) {
            x.feed(words[i], words[i + 1], words[i + 2], words[i + 3], words[i + 4]);
        }
        x.read(0, length);
        for (int i = 101; i + 6 <= MOST; i += 6) {
            x.graft(1 + i % 7, 0, 0, 2, 0);
            x.add(0, 2, 10, 0, 0, 0);
            x.drop(0, 646);
            x.many(1 + i % 7, 2);
            x.drop(1 + i % 7, 1);
            x.look(0, 1, 3);
        }
    }
}
