final class Promise04PlaceTest {
    public static void main(String[] args) {
        DocumentBytes x = new DocumentBytes();
        Check.due("before any", x.place(), -1);
        Check.due("a read that is none", x.read(0, 1), -1);
        Check.due("still before any", x.place(), -1);
        Check.due("a fault", Check.read(x, 0, Check.document(Check.truth("abc", 2))), 5);
        Check.due("its place", x.place(), 9);
        Check.due("its place again", x.place(), 9);
        Check.due("a read that doesn't count", x.read(0, -1), -1);
        Check.due("a slot that doesn't count", x.read(9, 0), -1);
        Check.due("the place stays", x.place(), 9);
        x.add(0, 0, 10, 0, 0, 0);
        x.drop(0, 1);
        x.find(0, 0, 0);
        x.graft(1, 0, 0, 0, 0);
        Check.due("no other call changes it", x.place(), 9);
        Check.due("a fault at once", x.read(5, 0), 1);
        Check.due("its place", x.place(), 0);
        Check.due("no fault", Check.read(x, 0, Check.document()), 0);
        Check.due("no place", x.place(), -1);
        Check.finish();
    }
}
