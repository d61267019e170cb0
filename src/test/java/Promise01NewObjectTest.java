final class Promise01NewObjectTest extends Check {
    public static void main(String[] args) {
        sentence("Promise 1: slots 0 to 7 have documents without elements", Promise01NewObjectTest::slots);
        sentence("Promise 1: slots 0 to 7: there is none below or above", Promise01NewObjectTest::noOtherSlots);
        sentence("Promise 1: nothing is on the tape", Promise01NewObjectTest::tape);
        sentence("Promise 1: a new object, whatever others have", Promise01NewObjectTest::others);
        finish();
    }

    private static void slots() {
        for (int s = 0; s < 8; s++) {
            Recorded x = new Recorded();
            due("slot " + s, x.bytesOf(s), bytes(5, 0, 0, 0, 0));
            due("nodes of slot " + s, x.many(s, 1), 1);
            due("depth of slot " + s, x.many(s, 2), 1);
            due("kind of slot " + s, x.look(s, 0, 0), 3);
            due("elements of slot " + s, x.look(s, 0, 7), 0);
            due("first element of slot " + s, x.look(s, 0, 2), -1);
            due("an element can come to slot " + s, x.add(s, 0, 10, 0, 0, 0), 1);
            due("and goes", x.drop(s, 1), 1);
        }
    }

    private static void noOtherSlots() {
        for (int s : NO_SLOTS) {
            Recorded x = new Recorded();
            due("bytes of slot " + s, x.many(s, 0), -1);
            due("byte 0 of slot " + s, x.byteAt(s, 0), -1);
            due("node 0 of slot " + s, x.look(s, 0, 0), -1);
        }
    }

    private static void tape() {
        due("bytes on the tape", new Recorded().tapeCount(), 0);
        due("read of 1", new Recorded().read(0, 1), -1);
        due("find of 1", new Recorded().find(0, 0, 1), -1);
        due("add with a name of 1", new Recorded().add(0, 0, 10, 0, 1, 0), -1);
        due("add with a text of 1", new Recorded().add(0, 0, 2, 0, 0, 1), -1);
        due("graft with a name of 1", new Recorded().graft(0, 0, 1, 0, 1), -1);
        due("the first feed", new Recorded().feed(1, 2, 3, 4, 5), 20);
    }

    private static void others() {
        String fresh = new Recorded().state();
        Recorded used = with(documentOf(100));
        used.add(3, 0, 16, 7, 0, 0);
        used.feed(1, 2, 3, 4, 5);
        due("another new object", new Recorded().state(), fresh);
        due("its tape", new Recorded().tapeCount(), 0);
        due("the used one", used.number(3, 1), 7);
    }
}
