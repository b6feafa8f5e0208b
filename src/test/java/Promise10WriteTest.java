public final class Promise10WriteTest {
    public static void main(String[] args) {
        familyFour();
        familySix();
        rowsOfZeros();
        everyShapeOfZeros();
        withoutTheLength();
        changesNothing();
        Check.finish();
    }

    private static void writes(String text, String due) {
        AddressTexts x = new AddressTexts();
        Check.read(x, text);
        Check.same("bytes of " + text, due.length(), x.write());
        Check.same("write of " + text, due, Check.written(x));
    }

    private static void familyFour() {
        String[] texts = {"0.0.0.0", "1.2.3.4", "10.0.0.7", "9.10.99.100", "101.109.110.199", "200.249.250.255", "255.255.255.255"};
        for (String text : texts) {
            writes(text, text);
        }
        for (int i = 0; i < 256; i++) {
            String text = i + "." + (255 - i) + "." + i + ".0";
            writes(text, text);
        }
    }

    private static void familySix() {
        writes("ABCD:EF01:2345:6789:abcd:ef01:2345:6789", "abcd:ef01:2345:6789:abcd:ef01:2345:6789");
        writes("FFFF:FFFF:FFFF:FFFF:FFFF:FFFF:FFFF:FFFF", "ffff:ffff:ffff:ffff:ffff:ffff:ffff:ffff");
        writes("0001:0020:0300:4000:0a0b:00c0:0d00:000E", "1:20:300:4000:a0b:c0:d00:e");
        writes("1000:100:10:1:1001:101:11:f", "1000:100:10:1:1001:101:11:f");
        writes("::ffff:102:304", "::ffff:102:304");
    }

    private static void rowsOfZeros() {
        writes("0:0:0:0:0:0:0:0", "::");
        writes("0:0:0:0:0:0:0:1", "::1");
        writes("1:0:0:0:0:0:0:0", "1::");
        writes("1:0:0:0:0:0:0:1", "1::1");
        writes("1:2:3:4:5:6:7::", "1:2:3:4:5:6:7:0");
        writes("::2:3:4:5:6:7:8", "0:2:3:4:5:6:7:8");
        writes("1:2:3::5:6:7:8", "1:2:3:0:5:6:7:8");
        writes("0:1:0:1:0:1:0:1", "0:1:0:1:0:1:0:1");
        writes("1:0:0:2:3:0:0:4", "1::2:3:0:0:4");
        writes("1:0:0:2:0:0:0:4", "1:0:0:2::4");
        writes("0:0:0:1:0:0:0:1", "::1:0:0:0:1");
        writes("0:0:1:0:0:0:1:0", "0:0:1::1:0");
        writes("0:0:1:0:0:1:0:0", "::1:0:0:1:0:0");
        writes("1:1:0:0:1:0:0:0", "1:1:0:0:1::");
        writes("2001:DB8:0:0:1:0:0:0", "2001:db8:0:0:1::");
        writes("1:2:3:4:5:6:0:0", "1:2:3:4:5:6::");
        writes("0:0:3:4:5:6:7:8", "::3:4:5:6:7:8");
        writes("0:2:3:4:5:6:0:0", "0:2:3:4:5:6::");
        writes("0:0:3:4:5:6:7:0", "::3:4:5:6:7:0");
    }

    /** Each choice of parts that are 0, against the text that is found by trying the longest row first. */
    private static void everyShapeOfZeros() {
        for (int zeros = 0; zeros < 256; zeros++) {
            StringBuilder text = new StringBuilder();
            for (int part = 0; part < 8; part++) {
                text.append(part == 0 ? "" : ":").append((zeros >> part & 1) == 1 ? "0" : "f" + part);
            }
            writes(text.toString(), shortened(text.toString()));
        }
    }

    private static String shortened(String text) {
        String marked = ":" + text + ":";
        for (int count = 8; count >= 2; count--) {
            String row = ":" + "0:".repeat(count);
            int at = marked.indexOf(row);
            if (at >= 0) {
                String ahead = at == 0 ? "" : marked.substring(1, at);
                int behind = at + row.length();
                return ahead + "::" + (behind >= marked.length() ? "" : marked.substring(behind, marked.length() - 1));
            }
        }
        return text;
    }

    private static void withoutTheLength() {
        AddressTexts x = new AddressTexts();
        Check.read(x, "10.1.2.3");
        Check.length(x, "8");
        Check.same("write of 10.1.2.3 with length 8", "10.1.2.3", Check.write(x));
    }

    private static void changesNothing() {
        AddressTexts x = Check.pair("1.2.3.4/9", "1.2.3.4/10");
        Check.tape(x, "7");
        Check.same("write()", 7, x.write());
        Check.same("write() again", 7, x.write());
        Check.same("order()", -1, x.order());
        Check.same("length() of the kept tape", 7, x.length());
        Check.same("bits(1)", 0x01020304L, x.bits(1));
    }
}
