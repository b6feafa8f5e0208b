public final class Promise08OrderTest {
    /** All apart, in the order that the document tells. */
    private static final String[] SORTED = {
        "0.0.0.0/0", "0.0.0.0/1", "0.0.0.0/32", "0.0.0.1/0", "0.0.1.0/32", "1.0.0.0/8", "10.0.0.0/8", "10.0.0.0/9", "10.1.2.3/8",
        "127.255.255.255/32", "128.0.0.0/0", "255.255.255.255/0", "255.255.255.255/32",
        "::/0", "::/32", "::/128", "::1/0", "::1/128", "::7fff:ffff:ffff:ffff/128", "::8000:0:0:0/0", "::ffff:ffff:ffff:ffff/128",
        "0:0:0:1::/64", "0:0:0:1::1/0", "1::/16", "7fff:ffff:ffff:ffff::/64", "7fff:ffff:ffff:ffff:ffff:ffff:ffff:ffff/0", "8000::/1",
        "8000::/2", "8000::8000:0:0:0/0", "ffff:ffff:ffff:ffff:ffff:ffff:ffff:fffe/128", "ffff:ffff:ffff:ffff:ffff:ffff:ffff:ffff/127",
        "ffff:ffff:ffff:ffff:ffff:ffff:ffff:ffff/128",
    };

    public static void main(String[] args) {
        everyPair();
        asTheyAre();
        changesNothing();
        Check.finish();
    }

    private static void everyPair() {
        for (int i = 0; i < SORTED.length; i++) {
            for (int j = 0; j < SORTED.length; j++) {
                AddressTexts x = Check.pair(SORTED[i], SORTED[j]);
                Check.same("order() of " + SORTED[i] + " and " + SORTED[j], Integer.compare(i, j), x.order());
                x.turn();
                Check.same("order(), turned", Integer.compare(j, i), x.order());
            }
        }
    }

    private static void asTheyAre() {
        AddressTexts x = Check.pair("10.2.0.0/8", "10.1.0.0/8");
        Check.same("order(), not cut", 1, x.order());
        Check.same("cut()", true, x.cut());
        Check.same("order(), ONE cut", -1, x.order());
        x.turn();
        Check.same("cut()", true, x.cut());
        Check.same("order(), both cut", 0, x.order());
    }

    private static void changesNothing() {
        AddressTexts x = Check.pair("10.2.0.0/8", "2::/8");
        Check.same("order()", -1, x.order());
        Check.same("order() again", -1, x.order());
        Check.same("ONE", "10.2.0.0", Check.write(x));
        x.turn();
        Check.same("TWO", "2::", Check.write(x));
    }
}
