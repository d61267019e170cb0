final class Promise02FeedTest extends Check {
    public static void main(String[] args) {
        sentence("Promise 2: twenty bytes come behind those on the tape", Promise02FeedTest::behind);
        sentence("Promise 2: four of each number, the highest first", Promise02FeedTest::highestFirst);
        sentence("Promise 2: how many there are", Promise02FeedTest::howMany);
        sentence("Promise 2: 2,000 bytes are not more than 2,000", Promise02FeedTest::justFull);
        sentence("Promise 2: -1, doing nothing, when there would be more than 2,000", Promise02FeedTest::tooMany);
        finish();
    }

    private static void behind() {
        Recorded x = new Recorded();
        x.feed(0x61626364, 0x65666768, 0x696A6B6C, 0x6D6E6F70, 0x71727374);
        due("twenty", x.tape(), utf8("abcdefghijklmnopqrst"));
        x.feed(0x41424344, 0x45464748, 0x494A4B4C, 0x4D4E4F50, 0x51525354);
        due("forty", x.tape(), utf8("abcdefghijklmnopqrstABCDEFGHIJKLMNOPQRST"));
        x.feed(0, 0, 0, 0, 0);
        due("zeros count too", x.tape(), join(utf8("abcdefghijklmnopqrstABCDEFGHIJKLMNOPQRST"), new byte[20]));
    }

    private static void highestFirst() {
        Recorded x = new Recorded();
        x.feed(0x12000000, 0x12616263, 0x0080FF01, 0x02030405, 0x7F000000);
        due("read", x.read(0, 18), 0);
        due("number", x.number(0, 1), 0x7F0504030201FF80L);
        due("letter 2", x.letter(0, 1, false, 2), 0x63);
        // All numbers may be below 0: what is a sign elsewhere is a part of the highest byte here.
        x.feed(0x14000000, 0x12800080, -1, Integer.MIN_VALUE, Integer.MAX_VALUE);
        due("a name that is no UTF-8", x.read(0, 20), 4);
        due("its place", x.place(), 5);
        x.feed(0x14000000, 0x1200FFFE, 0xFDFCFBFA, 0xF9F80A61, 0x62630000);
        due("read of numbers below 0", x.read(0, 20), 0);
        due("their bytes", x.number(0, 1), 0xF8F9FAFBFCFDFEFFL);
    }

    private static void howMany() {
        Recorded x = new Recorded();
        due("first", x.feed(-1, -1, -1, -1, -1), 20);
        due("second", x.feed(0, 0, 0, 0, 0), 40);
        x.read(0, 0);
        due("on a tape that was emptied", x.feed(0, 0, 0, 0, 0), 20);
    }

    private static Recorded full() {
        Recorded x = new Recorded();
        for (int i = 1; i <= 100; i++) {
            due("feed " + i, x.feed(0x61626364 + i % 20, 0x41424344, 0x61626364, 0x41424344, 0x61626364), 20 * i);
        }
        return x;
    }

    private static void justFull() {
        byte[] all = documentOf(2000);
        Recorded x = new Recorded();
        x.feedAll(all);
        due("bytes on the tape", x.tapeCount(), 2000);
        due("read of all of them", x.read(3, 2000), 0);
        due("as they came", x.bytesOf(3), all);
    }

    private static void tooMany() {
        Recorded x = full();
        doesNothing("feed 101", x, y -> y.feed(1, 2, 3, 4, 5), -1);
        doesNothing("feed 102", x, y -> y.feed(0, 0, 0, 0, 0), -1);
        due("still 2,000, not more", x.read(0, 2001), -1);
        due("still 2,000, not fewer", x.read(0, 2000), 1);
        due("feed on an emptied tape", x.feed(0, 0, 0, 0, 0), 20);

        Recorded y = new Recorded();
        byte[] all = documentOf(2000);
        y.feedAll(all);
        due("a feed that is refused", y.feed(-1, -1, -1, -1, -1), -1);
        due("read", y.read(3, 2000), 0);
        due("each byte of a full tape stays", y.bytesOf(3), all);
    }
}
