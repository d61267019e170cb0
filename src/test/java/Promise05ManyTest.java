final class Promise05ManyTest extends Check {
    public static void main(String[] args) {
        sentence("Promise 5: 0 how many bytes", Promise05ManyTest::bytesOfASlot);
        sentence("Promise 5: 1 how many nodes", Promise05ManyTest::nodes);
        sentence("Promise 5: 2 how deep the deepest document or row is", Promise05ManyTest::depth);
        sentence("Promise 5: of a document without elements", Promise05ManyTest::empty);
        sentence("Promise 5: -1 when there is no such slot", Promise05ManyTest::noSlot);
        sentence("Promise 5: -1 when there is no such what", Promise05ManyTest::noWhat);
        finish();
    }

    private static void bytesOfASlot() {
        for (int size : new int[] {13, 127, 128, 255, 256, 1999, 2000}) {
            due("many(0, 0)", with(documentOf(size)).many(0, 0), size);
        }
        Recorded x = with(documentOf(100));
        x.add(0, 0, 18, 1, 0, 0);
        due("behind an add()", x.many(0, 0), 110);
        x.drop(0, 1);
        due("behind a drop()", x.many(0, 0), 15);
    }

    private static void nodes() {
        Recorded x = with(document(whole("a", 1), row("b", nothing("0"), inner("1")), inner("c", text("t", xs(9)))));
        due("many(0, 1)", x.many(0, 1), 7);
        x.add(0, 2, 10, 0, 0, 0);
        due("behind an add()", x.many(0, 1), 8);
        x.drop(0, 2);
        due("behind a drop()", x.many(0, 1), 4);
        due("of a crowd", with(crowd()).many(0, 1), 647);
    }

    private static void depth() {
        for (int deep = 1; deep <= 16; deep++) {
            due("nested " + deep, with(nested(deep)).many(0, 2), deep);
            due("nested " + deep + ", a number inside", with(nested(deep, whole("n", 1))).many(0, 2), deep);
        }
        due("not the last one", with(document(inner("a", inner("b")), inner("c"), nothing("d"))).many(0, 2), 3);
        due("not the first one", with(document(inner("c"), inner("a", row("b")), nothing("d"))).many(0, 2), 3);
        due("rows", with(document(row("a", row("0", row("0"))))).many(0, 2), 4);
        due("what is no document or row is not deeper", with(document(nothing("a"), whole("b", 1))).many(0, 2), 1);
        Recorded x = with(nested(16));
        x.drop(0, 1);
        due("behind a drop()", x.many(0, 2), 1);
    }

    private static void empty() {
        for (int s = 0; s < 8; s++) {
            Recorded x = new Recorded();
            due("bytes", x.many(s, 0), 5);
            due("nodes", x.many(s, 1), 1);
            due("depth", x.many(s, 2), 1);
        }
    }

    private static void noSlot() {
        for (int s : NO_SLOTS) {
            for (int what = -1; what < 4; what++) {
                int w = what;
                doesNothing("many(" + s + ", " + w + ")", with(documentOf(30)), x -> x.many(s, w), -1);
            }
        }
    }

    private static void noWhat() {
        for (int what : new int[] {-1, 3, 4, Integer.MIN_VALUE, Integer.MAX_VALUE}) {
            for (int s = 0; s < 8; s += 7) {
                int slot = s;
                doesNothing("many(" + s + ", " + what + ")", with(documentOf(30)), x -> x.many(slot, what), -1);
            }
        }
    }
}
