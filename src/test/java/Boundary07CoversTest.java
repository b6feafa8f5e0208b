/** Promise 7, sentence by sentence. */
public final class Boundary07CoversTest {
    public static void main(String[] args) {
        oneOfItsFamily();
        firstBitsAreIts();
        lengthZeroCoversAll();
        theWholeLengthCoversItself();
        lengthIsNotLess();
        cutOrNot();
        oneCoversTwo();
        changesNothing();
        Check.finish();
    }

    private static void covers(String one, String two, boolean due) {
        Check.same(one + " covers " + two, due, Check.pair(one, two).covers());
    }

    /** The bits are the same, or there are none to be held against others. */
    private static void oneOfItsFamily() {
        Check.sentence("another one of its family");
        covers("0.0.0.0/0", "::/0", false);
        covers("0.0.0.0/0", "::/128", false);
        covers("::/0", "0.0.0.0/0", false);
        covers("::/0", "0.0.0.0/32", false);
        covers("0.0.0.1/32", "::1/32", false);
        covers("0.0.0.1/32", "::1/128", false);
        covers("::1/32", "0.0.0.1/32", false);
        covers("::1/128", "0.0.0.1/32", false);
    }

    /** Two that are apart in one bit, for each bit: the length ends ahead of it, or behind it. */
    private static void firstBitsAreIts() {
        Check.sentence("whose first bits are its");
        for (int bit = 0; bit < 32; bit++) {
            String[] numbers = {"0", "0", "0", "0"};
            numbers[bit / 8] = String.valueOf(128 >> bit % 8);
            String address = String.join(".", numbers);
            covers("0.0.0.0/" + bit, address + "/32", true);
            covers("0.0.0.0/" + (bit + 1), address + "/32", false);
            covers(address + "/" + bit, "0.0.0.0/" + bit, true);
            covers(address + "/" + (bit + 1), "0.0.0.0/" + (bit + 1), false);
        }
        for (int bit = 0; bit < 128; bit++) {
            String[] parts = {"0", "0", "0", "0", "0", "0", "0", "0"};
            parts[bit / 16] = Integer.toHexString(0x8000 >> bit % 16);
            String address = String.join(":", parts);
            covers("::/" + bit, address + "/128", true);
            covers("::/" + (bit + 1), address + "/128", false);
        }
    }

    private static void lengthZeroCoversAll() {
        Check.sentence("whose first bits are its: a length 0");
        covers("0.0.0.0/0", "255.255.255.255/32", true);
        covers("255.255.255.255/0", "0.0.0.0/0", true);
        covers("0.0.0.0/0", "255.255.255.255/0", true);
        covers("::/0", State.ALL_6 + "/128", true);
        covers(State.ALL_6 + "/0", "::/0", true);
    }

    private static void theWholeLengthCoversItself() {
        Check.sentence("whose first bits are its: the family's length");
        covers("1.2.3.4/32", "1.2.3.4/32", true);
        covers("1.2.3.4/32", "1.2.3.5/32", false);
        covers("129.2.3.4/32", "1.2.3.4/32", false);
        covers("1::4/128", "1::4/128", true);
        covers("1::4/128", "1::5/128", false);
        covers("8001::4/128", "1::4/128", false);
    }

    private static void lengthIsNotLess() {
        Check.sentence("whose length is not less");
        for (int length = 0; length <= 32; length++) {
            covers("0.0.0.0/" + length, "0.0.0.0/" + length, true);
            if (length > 0) {
                covers("0.0.0.0/" + length, "0.0.0.0/" + (length - 1), false);
                covers("0.0.0.0/" + (length - 1), "0.0.0.0/" + length, true);
            }
        }
        for (int length = 0; length <= 128; length++) {
            covers("1::1/" + length, "1::1/" + length, true);
            if (length > 0) {
                covers("1::1/" + length, "1::1/" + (length - 1), false);
                covers("1::1/" + (length - 1), "1::1/" + length, true);
            }
        }
        covers("1.2.3.4/32", "1.2.3.4/0", false);
        covers("::/128", "::/0", false);
        covers("::/128", "::/127", false);
    }

    /** The answer is the same before and after a cut of ONE. */
    private static void cutOrNot() {
        Check.sentence("ONE (cut or not: its first bits)");
        cutAndNot("10.255.255.255/8", "10.1.2.3/8", true);
        cutAndNot("10.255.255.255/8", "11.255.255.255/32", false);
        cutAndNot("255.255.255.255/0", "1.2.3.4/0", true);
        cutAndNot("1:2:3:4:ffff::ffff/64", "1:2:3:4::/64", true);
        cutAndNot("1:2:3:4:ffff::ffff/65", "1:2:3:4::/65", false);
        cutAndNot("1::ffff/127", "1::fffe/128", true);
    }

    private static void cutAndNot(String one, String two, boolean due) {
        AddressTexts x = Check.pair(one, two);
        Check.same(one + " covers " + two + ", not cut", due, x.covers());
        Check.same("cut()", true, x.cut());
        Check.same(one + " covers " + two + ", cut", due, x.covers());
    }

    private static void oneCoversTwo() {
        Check.sentence("Whether ONE .. covers TWO");
        AddressTexts x = Check.pair("10.0.0.0/8", "10.1.0.0/16");
        Check.same("covers()", true, x.covers());
        x.turn();
        Check.same("covers(), turned", false, x.covers());
        Check.same("covers() of a new object", true, new AddressTexts().covers());
    }

    private static void changesNothing() {
        Check.sentence("Whether ONE .. covers TWO: no more than asked");
        AddressTexts x = State.sample("7.8.9.10");
        Check.same("covers()", false, x.covers());
        Check.same("state after covers()", State.ofSample(8, "7.8.9.10"), State.of(x, 8));
    }
}
