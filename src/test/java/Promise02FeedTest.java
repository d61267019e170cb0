final class Promise02FeedTest {
    public static void main(String[] args) {
        theHighestByteComesFirst();
        theTapeHoldsTwoThousand();
        aFullTapeStaysAsItWas();
        Check.finish();
    }

    private static void theHighestByteComesFirst() {
        DocumentBytes x = new DocumentBytes();
        Check.due("feed", x.feed(0x14000000, 0x02007FFF, 0x01000000, 0x01000000, 0), 20);
        // The second word is 02 00 7F FF: a text without a name, whose n is far too large.
        Check.due("read", x.read(0, 20), 1);
        Check.due("place of the text's n", x.place(), 6);

        Check.due("feed", x.feed(0x14000000, 0x12618000 | 0x7F, 0x80FF0102, 0x03040500, 0), 20);
        // The second word is 12 61 80 7F: a name that is no UTF-8 at its second byte.
        Check.due("read", x.read(0, 20), 4);
        Check.due("place of the name's second byte", x.place(), 6);

        x.feed(0x12000000, 0x12616263, 0x0080FF01, 0x02030405, 0x7F000000);
        Check.due("read", x.read(0, 18), 0);
        Check.due("number", x.number(0, 1), 0x7F0504030201FF80L);
        Check.due("letter 2", x.letter(0, 1, false, 2), 0x63);
    }

    private static void theTapeHoldsTwoThousand() {
        DocumentBytes x = new DocumentBytes();
        for (int i = 1; i <= 100; i++) {
            Check.due("feed " + i, x.feed(i, 0, 0, 0, 0), 20 * i);
        }
        Check.due("feed 101", x.feed(1, 2, 3, 4, 5), -1);
        Check.due("feed 102", x.feed(1, 2, 3, 4, 5), -1);
        Check.due("read of 2001", x.read(0, 2001), -1);
        Check.due("read of 2000", x.read(0, 2000), 1);
        Check.due("feed on an empty tape", x.feed(0, 0, 0, 0, 0), 20);
    }

    private static void aFullTapeStaysAsItWas() {
        DocumentBytes x = new DocumentBytes();
        byte[] all = Check.documentOf(2000);
        Check.feed(x, all);
        Check.due("feed on a full tape", x.feed(-1, -1, -1, -1, -1), -1);
        Check.due("read", x.read(3, 2000), 0);
        Check.dueBytes("a full tape", x, 3, all);
    }
}
