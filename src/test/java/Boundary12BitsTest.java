/** Promise 12, sentence by sentence. */
public final class Boundary12BitsTest {
    private static final int[] OTHERS = {-1, 2, -2, 3, 4, 6, 32, 63, 64, 65, 128, 256, 257, 65536, 65537, Integer.MIN_VALUE,
        Integer.MIN_VALUE + 1, Integer.MAX_VALUE};

    public static void main(String[] args) {
        upperAndLower();
        ofFamily4TheUpperAreZero();
        zeroForOthers();
        ofOne();
        changesNothing();
        Check.finish();
    }

    private static void isOf(String text, long upper, long lower) {
        AddressTexts x = new AddressTexts();
        Check.read(x, text);
        Check.same("bits(0) of " + text, upper, x.bits(0));
        Check.same("bits(1) of " + text, lower, x.bits(1));
    }

    private static void upperAndLower() {
        Check.sentence("The upper (0) or lower (1) 64 bits of ONE");
        isOf("::", 0L, 0L);
        isOf("::1", 0L, 1L);
        isOf("0:0:0:1::", 1L, 0L);
        isOf("8000::", Long.MIN_VALUE, 0L);
        isOf("::8000:0:0:0", 0L, Long.MIN_VALUE);
        isOf("7fff:ffff:ffff:ffff::", Long.MAX_VALUE, 0L);
        isOf("::7fff:ffff:ffff:ffff", 0L, Long.MAX_VALUE);
        isOf("1:2:3:4:5:6:7:8", 0x0001000200030004L, 0x0005000600070008L);
        isOf(State.ALL_6, -1L, -1L);
        isOf("ffff:ffff:ffff:ffff::", -1L, 0L);
        isOf("::ffff:ffff:ffff:ffff", 0L, -1L);
    }

    /** A 4 behind a 6 has nothing left of it, and the highest bit of the 32 is no sign. */
    private static void ofFamily4TheUpperAreZero() {
        Check.sentence("of family 4 the upper ones are 0");
        isOf("0.0.0.0", 0L, 0L);
        isOf("127.255.255.255", 0L, 0x7fffffffL);
        isOf("128.0.0.0", 0L, 0x80000000L);
        isOf("255.255.255.255", 0L, 0xffffffffL);
        AddressTexts x = new AddressTexts();
        for (int i = 0; i < 4; i++) {
            Check.read(x, State.ALL_6);
            Check.same("bits(0) of family 6", -1L, x.bits(0));
            Check.read(x, "128.0.0.1");
            Check.same("bits(0) of family 4 behind 6", 0L, x.bits(0));
            Check.same("bits(1) of family 4 behind 6", 0x80000001L, x.bits(1));
        }
        Check.same("bits(0) of a new object", 0L, new AddressTexts().bits(0));
    }

    private static void zeroForOthers() {
        Check.sentence("0 for others");
        String[] texts = {"255.255.255.255", State.ALL_6};
        for (String text : texts) {
            AddressTexts x = new AddressTexts();
            Check.read(x, text);
            for (int half : OTHERS) {
                Check.same("bits(" + half + ") of " + text, 0L, x.bits(half));
            }
        }
    }

    private static void ofOne() {
        Check.sentence("bits of ONE");
        AddressTexts x = Check.pair("1.2.3.4/9", "5::6/17");
        Check.same("bits(1)", 0x01020304L, x.bits(1));
        x.turn();
        Check.same("bits(0), turned", 0x0005000000000000L, x.bits(0));
        Check.same("bits(1), turned", 6L, x.bits(1));
        Check.same("length of 0", 0, Check.length(x, "0"));
        Check.same("bits(1) with length 0, not cut", 6L, x.bits(1));
        Check.same("cut()", true, x.cut());
        Check.same("bits(0), cut", 0L, x.bits(0));
        Check.same("bits(1), cut", 0L, x.bits(1));
    }

    private static void changesNothing() {
        Check.sentence("bits of ONE: no more than asked");
        AddressTexts x = State.sample("7.8.9.10");
        x.bits(0);
        x.bits(1);
        for (int half : OTHERS) {
            x.bits(half);
        }
        Check.same("state after bits", State.ofSample(8, "7.8.9.10"), State.of(x, 8));
    }
}
