public final class Promise12BitsTest {
    public static void main(String[] args) {
        familyFour();
        familySix();
        others();
        ofOneAlone();
        Check.finish();
    }

    private static void bits(String text, long upper, long lower) {
        AddressTexts x = new AddressTexts();
        Check.read(x, text);
        Check.same("bits(0) of " + text, upper, x.bits(0));
        Check.same("bits(1) of " + text, lower, x.bits(1));
    }

    private static void familyFour() {
        bits("1.2.3.4", 0L, 0x01020304L);
        bits("128.0.0.1", 0L, 0x80000001L);
        bits("255.255.255.255", 0L, 0xffffffffL);
    }

    private static void familySix() {
        bits("1:2:3:4:5:6:7:8", 0x0001000200030004L, 0x0005000600070008L);
        bits("ffff::", 0xffff000000000000L, 0L);
        bits("::ffff:0:0:1", 0L, 0xffff000000000001L);
        bits("ffff:ffff:ffff:ffff::", -1L, 0L);
    }

    private static void others() {
        String[] texts = {"255.255.255.255", "ffff:ffff:ffff:ffff:ffff:ffff:ffff:ffff"};
        int[] halves = {-1, 2, 3, 4, -2, 64, 256, Integer.MIN_VALUE, Integer.MAX_VALUE};
        for (String text : texts) {
            AddressTexts x = new AddressTexts();
            Check.read(x, text);
            for (int half : halves) {
                Check.same("bits(" + half + ") of " + text, 0L, x.bits(half));
            }
        }
    }

    private static void ofOneAlone() {
        AddressTexts x = Check.pair("1.2.3.4/9", "ffff::1/10");
        Check.one("of ONE", x, "1.2.3.4", 0L, 0x01020304L);
        x.turn();
        Check.one("of what was TWO", x, "ffff::1", 0xffff000000000000L, 1L);
        Check.read(x, "4.3.2.1");
        Check.same("bits(0) of 4 behind 6", 0L, x.bits(0));
    }
}
