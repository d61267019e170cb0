final class Promise07LookTest extends Check {
    private static final byte[] INNER = document(text("", bytes(0, 'x')), longWhole("n", 1));
    private static final byte[] ROW = document(truth("0", 1), element(3, "1", INNER), nothing("2"));
    private static final byte[] ALL = document(whole("four", 4), element(4, "row", ROW), inner("\u00e9"), row(""));
    private static final int NODES = 10;

    public static void main(String[] args) {
        sentence("Promise 7: 0 its kind (3 for node 0)", () -> each(0, 3, 16, 4, 8, 3, 2, 18, 10, 3, 4));
        sentence("Promise 7: 1 the node it stands in, -1 if there is none", () -> each(1, -1, 0, 0, 2, 2, 4, 4, 2, 0, 0));
        sentence("Promise 7: 2 its first node, -1 if there is none", () -> each(2, 1, -1, 3, -1, 5, -1, -1, -1, -1, -1));
        sentence("Promise 7: 3 the next one in the same document or row, -1 if there is none",
                () -> each(3, -1, 2, 8, 4, 7, 6, -1, -1, 9, -1));
        sentence("Promise 7: 4 the number of bytes of its name", () -> each(4, 0, 4, 3, 1, 1, 0, 1, 1, 2, 0));
        sentence("Promise 7: 5 of its value",
                () -> each(5, ALL.length, 4, ROW.length, 1, INNER.length, 7, 8, 0, 5, 5));
        sentence("Promise 7: 6 of its text (n - 1; 0 of others)", () -> each(6, 0, 0, 0, 0, 0, 2, 0, 0, 0, 0));
        sentence("Promise 7: 7 how many elements it has (0 of others)", () -> each(7, 4, 0, 3, 0, 2, 0, 0, 0, 0, 0));
        sentence("Promise 7: 8 how deep it is (an element that is neither document nor row: as what it stands in)",
                () -> each(8, 1, 1, 2, 2, 3, 3, 3, 2, 2, 2));
        sentence("Promise 7: of a document or row with just one element", Promise07LookTest::justOne);
        sentence("Promise 7: of the largest and the smallest", Promise07LookTest::bounds);
        sentence("Promise 7: -1 when there is none such: no slot", Promise07LookTest::noSlot);
        sentence("Promise 7: -1 when there is none such: no node", Promise07LookTest::noNode);
        sentence("Promise 7: -1 when there is none such: no what", Promise07LookTest::noWhat);
        sentence("Promise 7: of each slot's own nodes, by turns", Promise07LookTest::slotsByTurns);
        finish();
    }

    private static Recorded all() {
        return with(ALL);
    }

    private static void each(int what, int... want) {
        Recorded x = all();
        due("nodes", x.many(0, 1), NODES);
        for (int node = 0; node < NODES; node++) {
            due("look(0, " + node + ", " + what + ")", x.look(0, node, what), want[node]);
        }
    }

    private static void justOne() {
        for (int kind = 3; kind <= 4; kind++) {
            Recorded x = with(document(element(kind, "0", document(element(kind, "0", document(whole("0", 1)))))));
            for (int node = 0; node < 3; node++) {
                due("first in node " + node, x.look(0, node, 2), node + 1);
                due("what it stands in", x.look(0, node + 1, 1), node);
                due("none behind it", x.look(0, node + 1, 3), -1);
                due("elements of node " + node, x.look(0, node, 7), 1);
            }
            due("none in the number", x.look(0, 3, 2), -1);
        }
    }

    private static void bounds() {
        Recorded empty = new Recorded();
        int[] want = {3, -1, -1, -1, 0, 5, 0, 0, 1};
        for (int what = 0; what < want.length; what++) {
            due("a document without elements, " + what, empty.look(3, 0, what), want[what]);
        }
        Recorded x = with(document(text("", xs(1988))));
        due("value of a document of 2,000", x.look(0, 0, 5), 2000);
        due("value of the longest text", x.look(0, 1, 5), 1993);
        due("text of the longest text", x.look(0, 1, 6), 1988);
        due("the longest name", with(document(element(10, xs(1993), EMPTY))).look(0, 1, 4), 1993);
        due("the deepest", with(nested(16)).look(0, 15, 8), 16);
        due("an element of the deepest", with(nested(16, nothing("a"))).look(0, 16, 8), 16);
        due("a text without letters", with(document(text("a", EMPTY))).look(0, 1, 6), 0);
        Recorded crowd = with(crowd());
        due("the last of many", crowd.look(0, 646, 1), 518);
        due("none behind the last of many", crowd.look(0, 646, 3), -1);
        due("the next behind all that is in it", crowd.look(0, 2, 3), 131);
        due("elements of one", crowd.look(0, 518, 7), 128);
    }

    private static void noSlot() {
        for (int s : NO_SLOTS) {
            for (int what = 0; what < 9; what++) {
                int w = what;
                doesNothing("look(" + s + ", 0, " + w + ")", all(), x -> x.look(s, 0, w), -1);
            }
        }
    }

    private static void noNode() {
        for (int node : new int[] {-1, NODES, NODES + 1, 700, Integer.MIN_VALUE, Integer.MAX_VALUE}) {
            for (int what = 0; what < 9; what++) {
                int w = what;
                doesNothing("look(0, " + node + ", " + w + ")", all(), x -> x.look(0, node, w), -1);
            }
        }
        Recorded x = all();
        due("node 1 of a document without elements", x.look(1, 1, 0), -1);
        due("the last one", x.look(0, NODES - 1, 0), 4);
        x.drop(0, NODES - 1);
        due("behind its drop()", x.look(0, NODES - 1, 0), -1);
    }

    private static void noWhat() {
        for (int what : new int[] {-1, 9, 10, Integer.MIN_VALUE, Integer.MAX_VALUE}) {
            for (int node = 0; node < NODES; node++) {
                int n = node;
                doesNothing("look(0, " + n + ", " + what + ")", all(), x -> x.look(0, n, what), -1);
            }
        }
    }

    private static void slotsByTurns() {
        Recorded x = all();
        due("read", x.feedAndRead(7, document(nothing("ab"), nothing(""))), 0);
        for (int i = 0; i < 3; i++) {
            due("name in slot 0", x.look(0, 1, 4), 4);
            due("name in slot 7", x.look(7, 1, 4), 2);
            due("elements in slot 3", x.look(3, 0, 7), 0);
            due("elements in slot 7", x.look(7, 0, 7), 2);
        }
    }
}
