final class Promise04PlaceTest extends Check {
    public static void main(String[] args) {
        sentence("Promise 4: the place of the latest read()'s fault", Promise04PlaceTest::latest);
        sentence("Promise 4: the place may be the first byte or the last", Promise04PlaceTest::firstAndLast);
        sentence("Promise 4: -1 when it had none", Promise04PlaceTest::noFault);
        sentence("Promise 4: -1 before any", Promise04PlaceTest::beforeAny);
        sentence("Promise 4: one that was -1 doesn't count", Promise04PlaceTest::refusedReads);
        sentence("Promise 4: no call but read() changes it", Promise04PlaceTest::otherCalls);
        finish();
    }

    private static void latest() {
        Recorded x = new Recorded();
        due("a fault", x.feedAndRead(0, document(truth("abc", 2))), 5);
        due("its place", x.place(), 9);
        due("its place again", x.place(), 9);
        due("another fault, in another slot", x.feedAndRead(5, document(bytes(99))), 3);
        due("its place", x.place(), 4);
    }

    private static void firstAndLast() {
        Recorded x = new Recorded();
        due("a fault at once", x.read(5, 0), 1);
        due("its place", x.place(), 0);
        byte[] all = documentOf(2000);
        all[1999] = 1;
        due("a fault at the end", x.feedAndRead(5, all), 2);
        due("its place", x.place(), 1999);
    }

    private static void noFault() {
        Recorded x = new Recorded();
        due("a fault", x.feedAndRead(0, document(truth("abc", 2))), 5);
        due("no fault", x.feedAndRead(1, document()), 0);
        due("no place", x.place(), -1);
    }

    private static void beforeAny() {
        Recorded x = new Recorded();
        due("at once", x.place(), -1);
        x.feedAll(document());
        due("with bytes on the tape", x.place(), -1);
        x.read(8, 5);
        x.read(0, 21);
        due("behind reads that were -1", x.place(), -1);
    }

    private static void refusedReads() {
        int[][] refused = {{0, -1}, {0, 1}, {-1, 0}, {8, 0}, {0, Integer.MAX_VALUE}, {0, Integer.MIN_VALUE}};
        for (int[] r : refused) {
            Recorded x = new Recorded();
            due("a fault", x.feedAndRead(0, document(truth("abc", 2))), 5);
            due("read(" + r[0] + ", " + r[1] + ")", x.read(r[0], r[1]), -1);
            due("its place stays", x.place(), 9);
            due("no fault", x.feedAndRead(0, document()), 0);
            due("read(" + r[0] + ", " + r[1] + ")", x.read(r[0], r[1]), -1);
            due("no place stays", x.place(), -1);
        }
    }

    private static void otherCalls() {
        Recorded x = new Recorded();
        due("a fault", x.feedAndRead(0, document(truth("abc", 2))), 5);
        x.feed(0, 0, 0, 0, 0);
        x.add(0, 0, 16, 0, 0, 0);
        x.add(0, 0, 16, 0, 0, 0);
        x.set(0, 1, 5);
        x.find(0, 0, 0);
        x.graft(1, 0, 0, 0, 0);
        x.drop(0, 1);
        x.drop(0, 1);
        x.many(1, 1);
        x.look(1, 0, 0);
        x.letter(1, 0, false, 0);
        x.number(1, 1);
        x.byteAt(1, 0);
        due("its place", x.place(), 9);
    }
}
