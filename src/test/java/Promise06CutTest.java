import java.math.BigInteger;

public final class Promise06CutTest {
    private static final String ALL_4 = "255.255.255.255";
    private static final String ALL_6 = "ffff:ffff:ffff:ffff:ffff:ffff:ffff:ffff";

    public static void main(String[] args) {
        everyLength(ALL_4, 32);
        everyLength(ALL_6, 128);
        oneBit();
        nothingToCut();
        leavesTwo();
        Check.finish();
    }

    private static void everyLength(String address, int bits) {
        for (int n = 0; n <= bits; n++) {
            AddressTexts x = new AddressTexts();
            Check.read(x, address);
            Check.length(x, String.valueOf(n));
            Check.same("cut() at " + n, n < bits, x.cut());
            BigInteger due = BigInteger.ONE.shiftLeft(n).subtract(BigInteger.ONE).shiftLeft(bits - n);
            Check.same("bits(0) cut at " + n, due.shiftRight(64).longValue(), x.bits(0));
            Check.same("bits(1) cut at " + n, due.longValue(), x.bits(1));
            Check.same("cut() again at " + n, false, x.cut());
            Check.length(x, String.valueOf(bits));
            Check.same("bits(1) stay cut at " + n, due.longValue(), x.bits(1));
            Check.same("cut() with the whole length", false, x.cut());
        }
    }

    private static void oneBit() {
        cutsAway("::1", "127", true, "::");
        cutsAway("::1", "128", false, "::1");
        cutsAway("0:0:0:1::", "63", true, "::");
        cutsAway("0:0:0:1::", "64", false, "0:0:0:1::");
        cutsAway("0:0:0:1:8000::", "64", true, "0:0:0:1::");
        cutsAway("0:0:0:1:8000::", "65", false, "::1:8000:0:0:0");
        cutsAway("8000::", "0", true, "::");
        cutsAway("8000::", "1", false, "8000::");
        cutsAway("128.0.0.0", "0", true, "0.0.0.0");
        cutsAway("128.0.0.0", "1", false, "128.0.0.0");
        cutsAway("10.1.2.3", "8", true, "10.0.0.0");
        cutsAway("10.1.2.3", "31", true, "10.1.2.2");
    }

    private static void cutsAway(String address, String length, boolean due, String left) {
        AddressTexts x = new AddressTexts();
        Check.read(x, address);
        Check.length(x, length);
        Check.same("cut() of " + address + "/" + length, due, x.cut());
        Check.same(address + "/" + length + " cut", left, Check.write(x));
    }

    private static void nothingToCut() {
        cutsAway("10.0.0.0", "8", false, "10.0.0.0");
        cutsAway("0.0.0.0", "0", false, "0.0.0.0");
        cutsAway("::", "0", false, "::");
        Check.same("cut() of a new object", false, new AddressTexts().cut());
    }

    private static void leavesTwo() {
        AddressTexts x = Check.pair("1.2.3.4/8", "5.6.7.8/8");
        Check.same("write", "1.2.3.4", Check.write(x));
        Check.same("cut()", true, x.cut());
        Check.same("what was written before", "1.2.3.4", Check.written(x));
        x.turn();
        Check.same("TWO", "5.6.7.8", Check.write(x));
        Check.same("cut()", true, x.cut());
    }
}
