/** Promise 2, sentence by sentence. */
public final class Boundary02FeedTest {
    public static void main(String[] args) {
        twentyBytesEach();
        appendsToTheTape();
        highestFirst();
        refusesMoreThanSixty();
        aRefusedFeedChangesNothing();
        Check.finish();
    }

    private static void twentyBytesEach() {
        Check.sentence("Appends twenty bytes to the tape");
        AddressTexts x = new AddressTexts();
        for (int due = 20; due <= 60; due += 20) {
            Check.same("feed to " + due, true, x.feed(0, 0, 0, 0, 0));
            Check.same("the tape's bytes", due, State.tapeCount(x));
        }
    }

    /** Each text lies over the border between two feeds, or behind an end. */
    private static void appendsToTheTape() {
        Check.sentence("Appends .. to the tape");
        AddressTexts x = new AddressTexts();
        Check.same("read of 39 bytes", 6, Check.read(x, "1234:5678:9ABC:DEF0:0FED:CBA9:8765:4321"));
        Check.one("of 39 bytes", x, "1234:5678:9abc:def0:fed:cba9:8765:4321", 0x123456789abcdef0L, 0x0fedcba987654321L);
        for (int ahead = 0; ahead <= 8; ahead++) {
            Check.tape(x, "12.34.56.78".substring(0, ahead));
            byte[] rest = "12.34.56.78".substring(ahead).getBytes();
            Check.same("feed behind " + ahead, true, Check.feed(x, rest, 0));
            Check.same("end(11)", true, x.end(11));
            Check.same("read() of a text in two pieces", 4, x.read());
            Check.same("bits(1)", 0x0c22384eL, x.bits(1));
        }
    }

    private static void highestFirst() {
        Check.sentence("of each number the highest first");
        AddressTexts x = new AddressTexts();
        Check.same("feed of 1234:5678:9abc:de::f", true, x.feed(0x31323334, 0x3A353637, 0x383A3961, 0x62633A64, 0x653A3A66));
        Check.same("read()", 6, x.read());
        Check.one("of twenty bytes", x, "1234:5678:9abc:de::f", 0x123456789abc00deL, 0xfL);
        // A number with the highest bit set, and one whose lower bytes all have it.
        x.feed(Integer.MIN_VALUE, 0, 0, 0, 0);
        x.end(1);
        Check.same("length() of byte 0x80", AddressTexts.NONE, x.length());
        x.feed(0x30FFFFFF, -1, -1, -1, -1);
        x.end(1);
        Check.same("length() of byte 0x30", 0, x.length());
    }

    private static void refusesMoreThanSixty() {
        Check.sentence("false .. when it would have more than 60");
        for (int n = 0; n <= 60; n++) {
            AddressTexts x = new AddressTexts();
            Check.same("feed to 20", true, x.feed(0, 0, 0, 0, 0));
            Check.same("feed to 40", true, x.feed(0, 0, 0, 0, 0));
            Check.same("feed to 60", true, x.feed(0, 0, 0, 0, 0));
            Check.same("end(" + n + ")", true, x.end(n));
            Check.same("feed behind " + n, n + 20 <= 60, x.feed(0, 0, 0, 0, 0));
            Check.same("the tape's bytes", n + 20 <= 60 ? n + 20 : n, State.tapeCount(x));
        }
    }

    private static void aRefusedFeedChangesNothing() {
        Check.sentence("changing nothing");
        int[] counts = {41, 59, 60};
        for (int count : counts) {
            AddressTexts x = State.sample("7.8.9.10" + "0".repeat(count - 8));
            Check.same("feed behind " + count, false, x.feed(0x31323334, -1, 0, Integer.MAX_VALUE, Integer.MIN_VALUE));
            Check.same("feed again behind " + count, false, x.feed(0x39393939, 0x39393939, 0x39393939, 0x39393939, 0x39393939));
            Check.same("state after a refused feed", State.ofSample(count, "7.8.9.10"), State.of(x, 8));
        }
        AddressTexts full = State.sample("0".repeat(57) + "::5");
        Check.same("feed behind 60", false, full.feed(-1, -1, -1, -1, -1));
        Check.same("read() of sixty bytes", AddressTexts.NONE, full.read());
        Check.same("feed to the empty tape", true, full.feed(0x3A3A3500, 0, 0, 0, 0));
    }
}
