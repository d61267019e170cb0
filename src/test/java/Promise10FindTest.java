final class Promise10FindTest extends Check {
    private static final byte[] ALL = document(nothing("a"), inner("ab", nothing("b"), nothing("")),
            row("\u00e9", nothing("0"), nothing("1")), nothing("b"), text("c", utf8("b")));

    public static void main(String[] args) {
        sentence("Promise 10: the element of a node that has that name", Promise10FindTest::found);
        sentence("Promise 10: the first n bytes of the tape are the name", Promise10FindTest::firstN);
        sentence("Promise 10: n may be 0: the name without bytes", Promise10FindTest::noBytes);
        sentence("Promise 10: n may be as many as there are", Promise10FindTest::nIsAll);
        sentence("Promise 10: the tape is empty then", Promise10FindTest::tapeIsEmpty);
        sentence("Promise 10: -1 when there is none", Promise10FindTest::none);
        sentence("Promise 10: -1 when there is none, as in a node that has no elements", Promise10FindTest::noElements);
        sentence("Promise 10: -1 when there is none, as in a node or slot that is none", Promise10FindTest::noNode);
        sentence("Promise 10: -1 when n is below 0 (then the tape stays)", Promise10FindTest::below0);
        sentence("Promise 10: -1 when n is more than there are (then the tape stays)", Promise10FindTest::tooMany);
        finish();
    }

    private static void find(int node, String name, int want) {
        due("find " + name + " in " + node, with(ALL).feedAndFind(0, node, utf8(name)), want);
    }

    private static void found() {
        find(0, "a", 1);
        find(0, "ab", 2);
        find(0, "\u00e9", 5);
        find(0, "b", 8);
        find(0, "c", 9);
        find(2, "b", 3);
        find(5, "0", 6);
        find(5, "1", 7);
        Recorded crowd = with(crowd());
        due("the last of many", crowd.feedAndFind(0, 518, bytes(127)), 646);
        due("the first of many", crowd.feedAndFind(0, 2, bytes(1)), 4);
        Recorded row = with(document(longRow("r", 101)));
        due("a name of three digits", row.feedAndFind(0, 1, utf8("100")), 102);
    }

    private static void firstN() {
        Recorded x = with(ALL);
        x.feedAll(utf8("abc"));
        due("1 of abc", x.find(0, 0, 1), 1);
        x.feedAll(utf8("abc"));
        due("2 of abc", x.find(0, 0, 2), 2);
        x.feedAll(utf8("abc"));
        due("3 of abc", x.find(0, 0, 3), -1);
    }

    private static void noBytes() {
        Recorded x = with(ALL);
        due("with nothing on the tape", x.find(0, 2, 0), 4);
        x.feedAll(utf8("b"));
        due("with a byte on the tape", x.find(0, 2, 0), 4);
        due("the tape is empty then", x.tapeCount(), 0);
        due("where each one has a name", x.find(0, 0, 0), -1);
        due("in a row", x.find(0, 5, 0), -1);
    }

    private static void nIsAll() {
        byte[] twenty = xs(20);
        Recorded x = with(document(element(10, twenty, EMPTY)));
        due("20 of 20", x.feedAndFind(0, 0, twenty), 1);
        Recorded most = with(document(element(10, xs(1980), EMPTY)));
        due("1,980 of 1,980", most.feedAndFind(0, 0, xs(1980)), 1);
        Recorded full = with(document(element(10, xs(1993), EMPTY)));
        full.feedAll(xs(2000));
        due("1,993 of 2,000", full.find(0, 0, 1993), 1);
        full.feedAll(xs(2000));
        due("2,000 of 2,000", full.find(0, 0, 2000), -1);
    }

    private static void tapeIsEmpty() {
        for (String name : new String[] {"a", "ab", "z", ""}) {
            Recorded x = with(ALL);
            x.feedAll(utf8("abcdefghijklmnopqrstuvwxyz"));
            int n = name.length();
            emptiesTheTape("find of " + n, x, y -> y.find(0, 0, n), n == 1 ? 1 : n == 2 ? 2 : -1);
        }
    }

    private static void none() {
        for (String name : new String[] {"A", "abc", "z", "0", "aa", "\u00e8"}) {
            Recorded x = with(ALL);
            x.feedAll(utf8(name));
            emptiesTheTape("find " + name, x, y -> y.find(0, 0, utf8(name).length), -1);
        }
        find(2, "a", -1);
        find(5, "2", -1);
        find(5, "00", -1);
        find(5, "b", -1);
        due("a name with a 0", with(ALL).feedAndFind(0, 0, bytes('a', 0)), -1);
        due("just a 0", with(ALL).feedAndFind(0, 2, bytes(0)), -1);
        due("no right UTF-8", with(ALL).feedAndFind(0, 0, bytes(0xC3)), -1);
    }

    private static void noElements() {
        for (int node : new int[] {1, 3, 6, 8, 9}) {
            Recorded x = with(ALL);
            x.feedAll(utf8("b"));
            emptiesTheTape("in node " + node, x, y -> y.find(0, node, 1), -1);
        }
        due("in a document without elements", with(ALL).feedAndFind(1, 0, utf8("a")), -1);
    }

    private static void noNode() {
        int[][] wrong = {{0, -1}, {0, 10}, {0, Integer.MIN_VALUE}, {0, Integer.MAX_VALUE}, {1, 1}, {-1, 0}, {8, 0},
            {Integer.MIN_VALUE, 0}, {Integer.MAX_VALUE, 0}};
        for (int[] w : wrong) {
            Recorded x = with(ALL);
            x.feedAll(utf8("a"));
            emptiesTheTape("find(" + w[0] + ", " + w[1] + ", 1)", x, y -> y.find(w[0], w[1], 1), -1);
        }
    }

    private static void staying(int s, int node, int n) {
        Recorded x = with(ALL);
        x.feedAll(utf8("ab"));
        doesNothing("find(" + s + ", " + node + ", " + n + ")", x, y -> y.find(s, node, n), -1);
        due("the tape can still be used", x.find(0, 0, 2), 2);
    }

    private static void below0() {
        for (int n : new int[] {-1, -2, -20, Integer.MIN_VALUE}) {
            staying(0, 0, n);
            staying(0, 1, n);
            staying(0, 99, n);
            staying(8, 0, n);
        }
    }

    private static void tooMany() {
        for (int n : new int[] {21, 22, 2001, Integer.MAX_VALUE}) {
            staying(0, 0, n);
            staying(0, 1, n);
            staying(0, 99, n);
            staying(-1, 0, n);
        }
        doesNothing("1 of none", with(ALL), y -> y.find(0, 0, 1), -1);
        Recorded full = with(ALL);
        full.feedAll(xs(2000));
        doesNothing("2,001 of 2,000", full, y -> y.find(0, 0, 2001), -1);
    }
}
