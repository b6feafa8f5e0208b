public final class Promise07CoversTest {
    public static void main(String[] args) {
        familyFour();
        familySix();
        neverAcrossFamilies();
        everyBit();
        changesNothing();
        Check.finish();
    }

    private static void covers(String one, String two, boolean due) {
        Check.same(one + " covers " + two, due, Check.pair(one, two).covers());
    }

    private static void familyFour() {
        covers("10.0.0.0/8", "10.1.2.3/32", true);
        covers("10.0.0.0/8", "10.0.0.0/8", true);
        covers("10.0.0.0/8", "10.0.0.0/7", false);
        covers("10.0.0.0/8", "11.0.0.0/8", false);
        covers("10.0.0.0/8", "10.255.0.0/9", true);
        covers("10.9.9.9/8", "10.1.2.3/16", true);
        covers("10.9.9.9/8", "10.1.2.3/8", true);
        covers("10.1.0.0/16", "10.0.0.0/8", false);
        covers("0.0.0.0/0", "255.255.255.255/32", true);
        covers("255.255.255.255/0", "0.0.0.0/0", true);
        covers("0.0.0.0/0", "0.0.0.0/0", true);
        covers("0.0.0.0/1", "128.0.0.0/1", false);
        covers("1.2.3.4/32", "1.2.3.4/32", true);
        covers("1.2.3.4/32", "1.2.3.5/32", false);
        covers("1.2.3.4/31", "1.2.3.5/32", true);
        covers("1.2.3.4/31", "1.2.3.5/30", false);
    }

    private static void familySix() {
        covers("2001:db8::/32", "2001:db8::1/128", true);
        covers("2001:db8::/32", "2001:db9::/128", false);
        covers("::/0", "ffff::1/128", true);
        covers("ffff::/0", "::/0", true);
        covers("::1/64", "::2/64", true);
        covers("::/64", "0:0:0:1::/64", false);
        covers("::8000:0:0:0/64", "::/65", true);
        covers("::8000:0:0:0/65", "::/65", false);
        covers("::8000:0:0:1/65", "::8000:0:0:2/66", true);
        covers("::1/128", "::1/128", true);
        covers("::1/128", "::1/127", false);
        covers("::1/127", "::/128", true);
        covers("::1/128", "::/128", false);
        covers("1::1/128", "::1/128", false);
    }

    private static void neverAcrossFamilies() {
        covers("0.0.0.0/0", "::/0", false);
        covers("::/0", "0.0.0.0/0", false);
        covers("0.0.0.0/0", "::/128", false);
        covers("::/0", "0.0.0.0/32", false);
        covers("1.2.3.4/32", "::102:304/128", false);
        covers("::102:304/32", "1.2.3.4/32", false);
    }

    /** Two addresses apart in one bit: covered just as long as the length ends ahead of it. */
    private static void everyBit() {
        for (int bit = 0; bit < 128; bit++) {
            StringBuilder text = new StringBuilder();
            for (int part = 0; part < 8; part++) {
                int value = part == bit / 16 ? 0x8000 >> bit % 16 : 0;
                text.append(part == 0 ? "" : ":").append(Integer.toHexString(value));
            }
            covers("::/" + bit, text + "/128", true);
            covers("::/" + (bit + 1), text + "/128", false);
            covers(text + "/" + bit, "::/" + bit, true);
            covers(text + "/" + (bit + 1), "::/" + (bit + 1), false);
        }
    }

    private static void changesNothing() {
        AddressTexts x = Check.pair("10.9.9.9/8", "10.1.2.3/16");
        Check.same("covers()", true, x.covers());
        Check.same("ONE", "10.9.9.9", Check.write(x));
        x.turn();
        Check.same("covers(), turned", false, x.covers());
        Check.same("TWO", "10.1.2.3", Check.write(x));
    }
}
