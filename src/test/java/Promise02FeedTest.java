public final class Promise02FeedTest {
    public static void main(String[] args) {
        highestByteFirst();
        appends();
        refusesMoreThanSixty();
        refusesBehindAnEnd();
        keepsBytesWithTheHighestBit();
        Check.finish();
    }

    private static void highestByteFirst() {
        AddressTexts x = new AddressTexts();
        Check.same("feed", true, x.feed(0x31323A33, 0x343A3536, 0x3A37383A, 0x61623A63, 0x643A3A31));
        Check.same("read()", 6, x.read());
        Check.same("write", "12:34:56:78:ab:cd:0:1", Check.write(x));
    }

    private static void appends() {
        AddressTexts x = new AddressTexts();
        String text = "1234:5678:9abc:def0:0fed:cba9:8765:4321";
        Check.same("read of three feeds' text", 6, Check.read(x, text));
        Check.one("of three feeds", x, "1234:5678:9abc:def0:fed:cba9:8765:4321", 0x123456789abcdef0L, 0x0fedcba987654321L);
        Check.tape(x, "1.2.3");
        Check.same("feed behind an end", true, x.feed(0x2E340000, 0, 0, 0, 0));
        Check.same("end(7)", true, x.end(7));
        Check.same("read()", 4, x.read());
        Check.same("write", "1.2.3.4", Check.write(x));
    }

    private static void refusesMoreThanSixty() {
        AddressTexts x = new AddressTexts();
        Check.same("feed to 20", true, x.feed(0x31323800, 0, 0, 0, 0));
        Check.same("feed to 40", true, x.feed(0, 0, 0, 0, 0));
        Check.same("feed to 60", true, x.feed(0, 0, 0, 0, 0));
        Check.same("feed to 80", false, x.feed(-1, -1, -1, -1, -1));
        Check.same("end(61)", false, x.end(61));
        Check.same("end(60)", true, x.end(60));
        Check.same("end(2)", true, x.end(2));
        Check.same("length() is of the first feed", 12, x.length());
    }

    private static void refusesBehindAnEnd() {
        AddressTexts x = new AddressTexts();
        for (int i = 0; i < 3; i++) {
            x.feed(0, 0, 0, 0, 0);
        }
        Check.same("end(41)", true, x.end(41));
        Check.same("feed to 61", false, x.feed(0, 0, 0, 0, 0));
        Check.same("end(42) after a refused feed", false, x.end(42));
        Check.same("end(40)", true, x.end(40));
        Check.same("feed to 60", true, x.feed(0, 0, 0, 0, 0));
        Check.same("end(60)", true, x.end(60));
    }

    private static void keepsBytesWithTheHighestBit() {
        AddressTexts x = new AddressTexts();
        // 0xB1 is '1' with the highest bit set: no digit.
        x.feed(0xB1000000, 0, 0, 0, 0);
        x.end(1);
        Check.same("length() of byte 0xB1", AddressTexts.NONE, x.length());
        x.feed(0xFF3A3AFF, 0, 0, 0, 0);
        x.end(4);
        Check.same("read() of bytes 0xFF", AddressTexts.NONE, x.read());
    }
}
