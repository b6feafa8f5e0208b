/** Promise 8, sentence by sentence. */
public final class Boundary08OrderTest {
    public static void main(String[] args) {
        familyFourFirst();
        byAddress();
        withoutSign();
        theAddressAheadOfTheLength();
        thenByLength();
        theSame();
        asTheyAre();
        changesNothing();
        Check.finish();
    }

    /** Asked both ways. */
    private static void first(String first, String second) {
        AddressTexts x = Check.pair(first, second);
        Check.same("order() of " + first + " and " + second, -1, x.order());
        x.turn();
        Check.same("order() of " + second + " and " + first, 1, x.order());
    }

    private static void familyFourFirst() {
        Check.sentence("family 4 first");
        first("0.0.0.0/0", "::/0");
        first("0.0.0.0/32", "::/0");
        first("0.0.0.0/32", "::/128");
        first("255.255.255.255/32", "::/0");
        first("255.255.255.255/32", "::1/32");
        first("0.0.0.1/32", "::1/32");
        first("128.0.0.0/32", "8000::/128");
        first("255.255.255.255/0", State.ALL_6 + "/0");
    }

    private static void byAddress() {
        Check.sentence("then by address");
        first("0.0.0.0/32", "0.0.0.1/32");
        first("0.0.0.255/32", "0.0.1.0/32");
        first("9.255.255.255/32", "10.0.0.0/32");
        first("::/128", "::1/128");
        first("::ffff:ffff:ffff:ffff/128", "0:0:0:1::/128");
        first("0:0:0:1::/128", "0:0:0:1::1/128");
        first("::2/128", "1::1/128");
        first("ffff:ffff:ffff:ffff:ffff:ffff:ffff:fffe/128", State.ALL_6 + "/128");
    }

    /** The highest bit of each half, and of the whole of family 4, is no sign. */
    private static void withoutSign() {
        Check.sentence("by address (without sign)");
        first("127.255.255.255/32", "128.0.0.0/32");
        first("0.0.0.0/32", "255.255.255.255/32");
        first("1.2.3.4/32", "200.2.3.4/32");
        first("::7fff:ffff:ffff:ffff/128", "::8000:0:0:0/128");
        first("::/128", "::ffff:ffff:ffff:ffff/128");
        first("5::1/128", "5::8000:0:0:1/128");
        first("7fff:ffff:ffff:ffff:ffff:ffff:ffff:ffff/128", "8000::/128");
        first("::/128", "ffff::/128");
        first("8000::7fff:0:0:0/128", "8000::8000:0:0:0/128");
    }

    private static void theAddressAheadOfTheLength() {
        Check.sentence("by address (without sign), then by length");
        first("0.0.0.0/32", "0.0.0.1/0");
        first("1.2.3.4/32", "1.2.3.5/0");
        first("127.0.0.0/32", "128.0.0.0/1");
        first("::/128", "::1/0");
        first("::ffff/128", "1::/0");
        first("7fff::/128", "8000::/0");
    }

    private static void thenByLength() {
        Check.sentence("then by length: the same address with another length");
        for (int length = 0; length < 32; length++) {
            first("10.2.3.4/" + length, "10.2.3.4/" + (length + 1));
            first("0.0.0.0/" + length, "0.0.0.0/32");
        }
        for (int length = 0; length < 128; length++) {
            first("1::ffff/" + length, "1::ffff/" + (length + 1));
        }
        first("::/0", "::/128");
        first(State.ALL_6 + "/0", State.ALL_6 + "/128");
    }

    private static void theSame() {
        Check.sentence("0 the same");
        String[] prefixes = {
            "0.0.0.0/0", "0.0.0.0/32", "128.0.0.0/1", "255.255.255.255/32", "1.2.3.4/9", "::/0", "::/128", "8000::8000:0:0:0/65",
            State.ALL_6 + "/128", State.ALL_6 + "/0",
        };
        for (String prefix : prefixes) {
            AddressTexts x = Check.pair(prefix, prefix);
            Check.same("order() of " + prefix + " twice", 0, x.order());
            x.turn();
            Check.same("order() of " + prefix + " twice, turned", 0, x.order());
        }
        Check.same("order() of a new object", 0, new AddressTexts().order());
        Check.same("order() of two texts of one address", 0, Check.pair("::AB/64", "0:0:0:0:0:0:0:00ab/64").order());
    }

    /** Bits behind the length count till they are cut. */
    private static void asTheyAre() {
        Check.sentence("(as they are)");
        AddressTexts x = Check.pair("10.2.0.0/8", "10.1.0.0/8");
        Check.same("order(), not cut", 1, x.order());
        x.cut();
        Check.same("order(), ONE cut", -1, x.order());
        x.turn();
        Check.same("order(), turned", 1, x.order());
        x.cut();
        Check.same("order(), both cut", 0, x.order());
        first("0.0.0.0/0", "0.0.0.1/0");
        first("::/0", "::1/0");
        first("8000::/1", "8000::1/1");
    }

    private static void changesNothing() {
        Check.sentence("Which stands first: no more than asked");
        AddressTexts x = State.sample("7.8.9.10");
        Check.same("order()", -1, x.order());
        Check.same("order() again", -1, x.order());
        Check.same("state after order()", State.ofSample(8, "7.8.9.10"), State.of(x, 8));
    }
}
