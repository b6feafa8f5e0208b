/** Promise 6, sentence by sentence. */
public final class Boundary06CutTest {
    public static void main(String[] args) {
        allBitsBehindTheLength();
        fromNowOn();
        nothingBehindTheLength();
        whetherAnyWasNot();
        everyBitOfFamily4();
        everyBitOfFamily6();
        onlyBitsOfOne();
        Check.finish();
    }

    private static void cuts(String prefix, boolean due, String left) {
        AddressTexts x = new AddressTexts();
        Check.prefix(x, prefix);
        Check.same("cut() of " + prefix, due, x.cut());
        Check.same(prefix + " cut", left, Check.write(x));
        Check.same("cut() again of " + prefix, false, x.cut());
        Check.same(prefix + " cut twice", left, Check.write(x));
    }

    private static void allBitsBehindTheLength() {
        Check.sentence("All bits of ONE behind its length are 0");
        cuts("255.255.255.255/0", true, "0.0.0.0");
        cuts("255.255.255.255/1", true, "128.0.0.0");
        cuts("255.255.255.255/8", true, "255.0.0.0");
        cuts("255.255.255.255/31", true, "255.255.255.254");
        cuts("255.255.255.255/32", false, "255.255.255.255");
        cuts(State.ALL_6 + "/0", true, "::");
        cuts(State.ALL_6 + "/1", true, "8000::");
        cuts(State.ALL_6 + "/32", true, "ffff:ffff::");
        cuts(State.ALL_6 + "/63", true, "ffff:ffff:ffff:fffe::");
        cuts(State.ALL_6 + "/64", true, "ffff:ffff:ffff:ffff::");
        cuts(State.ALL_6 + "/65", true, "ffff:ffff:ffff:ffff:8000::");
        cuts(State.ALL_6 + "/127", true, "ffff:ffff:ffff:ffff:ffff:ffff:ffff:fffe");
        cuts(State.ALL_6 + "/128", false, State.ALL_6);
    }

    /** A greater length does not bring back what was cut. */
    private static void fromNowOn() {
        Check.sentence("from now on");
        AddressTexts x = new AddressTexts();
        Check.prefix(x, State.ALL_6 + "/63");
        Check.same("cut()", true, x.cut());
        Check.same("length of 128", 128, Check.length(x, "128"));
        Check.one("with length 128 again", x, "ffff:ffff:ffff:fffe::", -2L, 0L);
        Check.same("cut() with length 128", false, x.cut());
        x.turn();
        x.turn();
        Check.one("turned twice", x, "ffff:ffff:ffff:fffe::", -2L, 0L);
    }

    private static void nothingBehindTheLength() {
        Check.sentence("whether any was not: none behind the whole length");
        cuts("1.2.3.255/32", false, "1.2.3.255");
        cuts("1::ffff/128", false, "1::ffff");
        Check.same("cut() of a new object", false, new AddressTexts().cut());
    }

    private static void whetherAnyWasNot() {
        Check.sentence("whether any was not: all were 0");
        cuts("0.0.0.0/0", false, "0.0.0.0");
        cuts("10.0.0.0/8", false, "10.0.0.0");
        cuts("255.255.255.254/31", false, "255.255.255.254");
        cuts("::/0", false, "::");
        cuts("::/64", false, "::");
        cuts("ffff:ffff:ffff:ffff::/64", false, "ffff:ffff:ffff:ffff::");
    }

    /** One bit alone is set: it stays just as long as the length ends behind it. */
    private static void everyBitOfFamily4() {
        Check.sentence("whether any was not: one bit of 32");
        for (int bit = 0; bit < 32; bit++) {
            String[] numbers = {"0", "0", "0", "0"};
            numbers[bit / 8] = String.valueOf(128 >> bit % 8);
            String address = String.join(".", numbers);
            cuts(address + "/" + bit, true, "0.0.0.0");
            cuts(address + "/" + (bit + 1), false, address);
        }
    }

    private static void everyBitOfFamily6() {
        Check.sentence("whether any was not: one bit of 128");
        for (int bit = 0; bit < 128; bit++) {
            String[] parts = {"0", "0", "0", "0", "0", "0", "0", "0"};
            parts[bit / 16] = Integer.toHexString(0x8000 >> bit % 16);
            AddressTexts x = new AddressTexts();
            Check.prefix(x, String.join(":", parts) + "/" + (bit + 1));
            Check.same("cut() behind bit " + bit, false, x.cut());
            Check.same("bits behind bit " + bit, 1, Long.bitCount(x.bits(0)) + Long.bitCount(x.bits(1)));
            Check.same("length ahead of bit " + bit, bit, Check.length(x, String.valueOf(bit)));
            Check.same("cut() ahead of bit " + bit, true, x.cut());
            Check.one("ahead of bit " + bit, x, "::", 0L, 0L);
        }
    }

    /** The lengths of both, TWO's bits, the tape and what was written stay. */
    private static void onlyBitsOfOne() {
        Check.sentence("All bits of ONE");
        AddressTexts x = State.sample("7.8.9.10");
        Check.same("cut()", true, x.cut());
        String due = "tape 8, written 1.2.3.4, ONE 255.128.0.0/9, TWO " + State.ALL_6 + "/17, tape reads 7.8.9.10";
        Check.same("state after a cut", due, State.of(x, 8));
        AddressTexts same = Check.pair("1.2.3.4/8", "1.0.0.0/8");
        Check.same("cut()", true, same.cut());
        Check.same("order(): the length stays", 0, same.order());
    }
}
