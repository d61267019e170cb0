/** What read() does and answers; each fault, with its place, is in TermsFaultsTest. */
final class Promise03ReadTest extends Check {
    private static final byte[] OLD = document(whole("old", 7), row("r", truth("0", 1)));

    public static void main(String[] args) {
        sentence("Promise 3: the first n bytes of the tape are read as slot s's document", Promise03ReadTest::firstN);
        sentence("Promise 3: the tape is empty then", Promise03ReadTest::tapeIsEmpty);
        sentence("Promise 3: 0: slot s has that document, and no other slot changes", Promise03ReadTest::zero);
        sentence("Promise 3: or the fault (the slot stays)", Promise03ReadTest::slotStays);
        sentence("Promise 3: n may be 0", Promise03ReadTest::nIs0);
        sentence("Promise 3: n may be as many as there are", Promise03ReadTest::nIsAll);
        sentence("Promise 3: -1, doing nothing, when there is no such slot", Promise03ReadTest::noSlot);
        sentence("Promise 3: -1, doing nothing, when n is below 0", Promise03ReadTest::below0);
        sentence("Promise 3: -1, doing nothing, when n is more than there are", Promise03ReadTest::tooMany);
        finish();
    }

    private static void firstN() {
        byte[] all = document(whole("a", 1));
        Recorded x = new Recorded();
        x.feedAll(join(all, utf8("what comes behind them is no part of it")));
        due("read", x.read(2, all.length), 0);
        due("the slot", x.bytesOf(2), all);
        x.feedAll(join(all, utf8("rest")));
        due("one byte fewer", x.read(2, all.length - 1), 1);
        x.feedAll(join(all, utf8("rest")));
        due("one byte more", x.read(2, all.length + 1), 2);
    }

    private static void tapeIsEmpty() {
        int[][] reads = {{5, 0}, {4, 1}, {6, 2}, {20, 2}, {0, 1}};
        for (int[] r : reads) {
            Recorded x = new Recorded();
            x.feedAll(join(document(), utf8("and more, beyond twenty bytes")));
            due("read of " + r[0], x.read(0, r[0]), r[1]);
            due("bytes on the tape", x.tapeCount(), 0);
            due("read of a byte that is gone", x.read(0, 1), -1);
        }
    }

    private static void zero() {
        for (int s = 0; s < 8; s++) {
            Recorded x = new Recorded();
            for (int t = 0; t < 8; t++) {
                due("read into slot " + t, x.feedAndRead(t, document(whole("t", t))), 0);
            }
            byte[] all = document(longWhole("new", s), inner("d", nothing("")));
            due("read into slot " + s, x.feedAndRead(s, all), 0);
            for (int t = 0; t < 8; t++) {
                due("slot " + t, x.bytesOf(t), t == s ? all : document(whole("t", t)));
            }
        }
        Recorded x = with(documentOf(2000));
        due("the smallest instead of the largest", x.feedAndRead(0, document()), 0);
        due("its bytes", x.bytesOf(0), document());
        due("its nodes", x.many(0, 1), 1);
        due("the largest instead of the smallest", x.feedAndRead(0, documentOf(2000)), 0);
        due("its bytes", x.bytesOf(0), documentOf(2000));
    }

    private static void slotStays() {
        Recorded x = with(OLD);
        String before = x.state();
        due("a fault at once", x.feedAndRead(0, bytes(4, 0, 0, 0, 0)), 2);
        due("a fault at the end", x.feedAndRead(0, join(bytes(8, 0, 0, 0), nothing("a"), bytes(1))), 2);
        due("a fault behind more nodes than the slot has",
                x.feedAndRead(0, document(nothing("a"), nothing("b"), nothing("c"), nothing("d"), nothing("a"))), 7);
        due("the node of the slot, asked at once", x.number(0, 1), 7);
        due("no fault, in another slot", x.feedAndRead(1, document()), 0);
        due("all slots", x.state(), before);
    }

    private static void nIs0() {
        for (int feeds = 0; feeds < 2; feeds++) {
            Recorded x = with(OLD);
            for (int i = 0; i < feeds; i++) {
                x.feed(0x05000000, 0, 0, 0, 0);
            }
            due("read of 0", x.read(0, 0), 1);
            due("its place", x.place(), 0);
            due("the slot", x.bytesOf(0), OLD);
            due("bytes on the tape", x.tapeCount(), 0);
        }
    }

    private static void nIsAll() {
        due("20 of 20", new Recorded().feedAndRead(0, documentOf(20)), 0);
        due("40 of 40", new Recorded().feedAndRead(0, documentOf(40)), 0);
        due("2,000 of 2,000", new Recorded().feedAndRead(0, documentOf(2000)), 0);
    }

    /** Calls that are refused, once behind a read with a fault and once behind one without. */
    private static void refused(int s, int n) {
        Recorded x = with(OLD);
        x.feedAll(document());
        doesNothing("read(" + s + ", " + n + ")", x, y -> y.read(s, n), -1);
        due("the tape can still be read", x.read(7, 5), 0);

        Recorded faulty = with(OLD);
        due("a fault", faulty.feedAndRead(1, document(truth("a", 2))), 5);
        faulty.feedAll(document());
        doesNothing("read(" + s + ", " + n + ") behind a fault", faulty, y -> y.read(s, n), -1);
        due("the place stays", faulty.place(), 7);
    }

    private static void noSlot() {
        for (int s : NO_SLOTS) {
            refused(s, 5);
            refused(s, 0);
            refused(s, 20);
            refused(s, 21);
        }
    }

    private static void below0() {
        for (int n : new int[] {-1, -2, -20, Integer.MIN_VALUE}) {
            refused(0, n);
            refused(7, n);
        }
    }

    private static void tooMany() {
        for (int n : new int[] {21, 22, 2000, 2001, Integer.MAX_VALUE}) {
            refused(0, n);
            refused(7, n);
        }
        Recorded none = with(OLD);
        doesNothing("1 of none", none, y -> y.read(0, 1), -1);
        Recorded full = new Recorded();
        full.feedAll(xs(2000));
        doesNothing("2,001 of 2,000", full, y -> y.read(0, 2001), -1);
        due("2,000 of 2,000", full.read(0, 2000), 1);
    }
}
