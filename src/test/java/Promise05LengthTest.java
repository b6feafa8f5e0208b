public final class Promise05LengthTest {
    private static final String[] WRONG = {
        "", "00", "01", "08", "032", "000", "-1", "+1", "-0", " 8", "8 ", "8\0", "a", "1a", "0x8", "/8", "8.", "8/", "1:", "f", "\u00b8",
        "129", "130", "256", "999", "1000", "4294967296", "4294967297", "4294967304", "18446744073709551624",
        "111111111111111111111111111111111111111111111111111111111111",
        "000000000000000000000000000000000000000000000000000000000000",
    };

    public static void main(String[] args) {
        everyLength("255.255.255.255", 32);
        everyLength("ffff:ffff:ffff:ffff:ffff:ffff:ffff:ffff", 128);
        wrongTexts("255.255.255.255", 32);
        wrongTexts("::1", 128);
        leavesTheAddress();
        isOfOneAlone();
        Check.finish();
    }

    private static void everyLength(String address, int bits) {
        AddressTexts x = new AddressTexts();
        for (int n = 0; n <= 300; n++) {
            // An object promises 512 calls alone, so now and then a new one goes on.
            if (n % 50 == 0) {
                x = new AddressTexts();
                Check.read(x, address);
            }
            Check.same("length of " + n, n <= bits ? n : AddressTexts.NONE, Check.length(x, String.valueOf(n)));
            Check.same("end(1), the tape being empty", false, x.end(1));
        }
    }

    /** ONE and TWO are the same address, so that order() tells whether the length was kept. */
    private static void wrongTexts(String address, int bits) {
        for (String text : WRONG) {
            AddressTexts x = Check.pair(address + "/7", address + "/7");
            Check.same("length of '" + text + "'", AddressTexts.NONE, Check.length(x, text));
            Check.same("end(1), the tape being empty", false, x.end(1));
            Check.same("order() after '" + text + "'", 0, x.order());
            Check.same("write after '" + text + "'", address, Check.write(x));
        }
        AddressTexts x = Check.pair(address + "/7", address + "/7");
        Check.same("length one beyond", AddressTexts.NONE, Check.length(x, String.valueOf(bits + 1)));
        Check.same("order() after one beyond", 0, x.order());
    }

    private static void leavesTheAddress() {
        AddressTexts x = new AddressTexts();
        Check.read(x, "255.255.255.255");
        Check.same("length", 0, Check.length(x, "0"));
        Check.same("bits(1)", 0xffffffffL, x.bits(1));
        Check.same("length", 31, Check.length(x, "31"));
        Check.same("cut()", true, x.cut());
        Check.same("bits(1), cut", 0xfffffffeL, x.bits(1));
        Check.same("length, greater again", 32, Check.length(x, "32"));
        Check.same("bits(1), cut before", 0xfffffffeL, x.bits(1));
    }

    private static void isOfOneAlone() {
        AddressTexts x = Check.pair("1.2.3.4/16", "1.2.3.4/16");
        Check.same("length", 24, Check.length(x, "24"));
        Check.same("order()", 1, x.order());
        x.turn();
        Check.same("order(), turned", -1, x.order());
        Check.same("length", 24, Check.length(x, "24"));
        Check.same("order(), both the same", 0, x.order());
    }
}
