public final class Promise04ReadTest {
    private static final String[] WRONG = {
        "", " ", "1", "a", ".", "...", "....", "1.2.3", "1.2.3.", ".1.2.3", ".1.2.3.4", "1.2.3.4.", "1.2.3.4.5", "1..3.4",
        "1.2.3.04", "01.2.3.4", "00.0.0.0", "1.2.3.000", "256.0.0.1", "0.0.0.256", "1.2.999.4", "1.2.3.1000",
        "1.2.3.4294967297", "1.2.3.18446744073709551617", "-1.2.3.4", "+1.2.3.4", " 1.2.3.4", "1.2.3.4 ", "1.2.3.4/8",
        "1.2.3.a", "a.b.c.d", "1,2,3,4", "1.2.3.4\0", "\0001.2.3.4", "1.2.3.\u00b4", "0x1.2.3.4", "1.2.3.4\n", "1.2.3./", "1.2.3.;",
        ":", ":::", "::::", "1", "1:", ":1", "1:2", "1:2:3:4:5:6:7", "1:2:3:4:5:6:7:", ":1:2:3:4:5:6:7", "1:2:3:4:5:6:7:8:",
        ":1:2:3:4:5:6:7:8", "1:2:3:4:5:6:7:8:9", "1:2:3:4:5:6:7:8::", "::1:2:3:4:5:6:7:8", "1:2:3:4::5:6:7:8", "1::2::3",
        "::1::", "1:::2", ":::1", "1:::", "::1:", ":1::", "1::2:", ":1::2", "12345::", "::12345", "::00001", "::g", "::G",
        "::@", "::`", "::/", "::;", ":: 1", "::1 ", " ::1", "::-1", "::1/64", "::1%1", "[::1]", "::1.2.3.4", "::ffff:1.2.3.4",
        "1:2:3:4:5:6:1.2.3.4", "1.2.3.4::", "1.2.3.4:", ":1.2.3.4", "::\u00b1", "::1\0", "::0x1",
        "0000:0000:0000:0000:0000:0000:0000:0000:", "00000:0:0:0:0:0:0:0", "1:2:3:4:5:6:7::8:9", "1::2:3:4:5:6:7:8",
        "000000000000000000000000000000000000000000000000000000000000",
        "::::::::::::::::::::::::::::::::::::::::::::::::::::::::::::",
        "............................................................",
        "1:1:1:1:1:1:1:1:1:1:1:1:1:1:1:1:1:1:1:1:1:1:1:1:1:1:1:1:1:11",
    };

    public static void main(String[] args) {
        familyFour();
        everyNumber();
        familySix();
        theGapAtEveryPlace();
        wrongTexts();
        whatWasOneIsTwo();
        wholeLengthAgain();
        everyDigitOfAnySize();
        theTapeIsEmptyThen();
        Check.finish();
    }

    private static void familyFour() {
        four("0.0.0.0", 0L);
        four("10.0.0.7", 0x0a000007L);
        four("1.2.3.4", 0x01020304L);
        four("255.255.255.255", 0xffffffffL);
        four("128.0.0.0", 0x80000000L);
        four("200.199.100.99", 0xc8c76463L);
    }

    private static void everyNumber() {
        for (int i = 0; i < 1000; i++) {
            for (int place = 0; place < 4; place++) {
                AddressTexts x = new AddressTexts();
                String text = "0.0.0.0".substring(0, 2 * place) + i + "0.0.0.0".substring(2 * place + 1);
                Check.same("read of " + text, i < 256 ? 4 : AddressTexts.NONE, Check.read(x, text));
                Check.same("bits(1) of " + text, i < 256 ? (long) i << (24 - 8 * place) : 0L, x.bits(1));
            }
        }
    }

    private static void familySix() {
        six("::", 0L, 0L);
        six("::1", 0L, 1L);
        six("1::", 0x0001000000000000L, 0L);
        six("2001:DB8:0:0:1:0:0:0", 0x20010db800000000L, 0x0001000000000000L);
        six("1:2:3:4:5:6:7:8", 0x0001000200030004L, 0x0005000600070008L);
        six("0001:0002:0003:0004:0005:0006:0007:0008", 0x0001000200030004L, 0x0005000600070008L);
        six("ffff:FFFF:fFfF:ffff:ffff:ffff:ffff:FfFf", -1L, -1L);
        six("fe80::aB", 0xfe80000000000000L, 0xabL);
        six("0:0:0:0:0:0:0:0", 0L, 0L);
        six("0000::0000", 0L, 0L);
        six("::255", 0L, 0x255L);
        six("8000::8000:0:0:0", 0x8000000000000000L, 0x8000000000000000L);
    }

    private static void theGapAtEveryPlace() {
        six("::2:3:4:5:6:7:8", 0x0000000200030004L, 0x0005000600070008L);
        six("1::3:4:5:6:7:8", 0x0001000000030004L, 0x0005000600070008L);
        six("1:2::4:5:6:7:8", 0x0001000200000004L, 0x0005000600070008L);
        six("1:2:3::5:6:7:8", 0x0001000200030000L, 0x0005000600070008L);
        six("1:2:3:4::6:7:8", 0x0001000200030004L, 0x0000000600070008L);
        six("1:2:3:4:5::7:8", 0x0001000200030004L, 0x0005000000070008L);
        six("1:2:3:4:5:6::8", 0x0001000200030004L, 0x0005000600000008L);
        six("1:2:3:4:5:6:7::", 0x0001000200030004L, 0x0005000600070000L);
        six("1:2::7:8", 0x0001000200000000L, 0x0000000000070008L);
        six("1:2:3:4:5::", 0x0001000200030004L, 0x0005000000000000L);
        six("::4:5:6:7:8", 0x0000000000000004L, 0x0005000600070008L);
    }

    private static void four(String text, long lower) {
        reads(text, 4, 0L, lower);
    }

    private static void six(String text, long upper, long lower) {
        reads(text, 6, upper, lower);
    }

    private static void reads(String text, int family, long upper, long lower) {
        AddressTexts x = new AddressTexts();
        Check.same("read of " + text, family, Check.read(x, text));
        Check.same("bits(0) of " + text, upper, x.bits(0));
        Check.same("bits(1) of " + text, lower, x.bits(1));
        Check.same("cut() of " + text + " with its whole length", false, x.cut());
        String bits = family == 4 ? "32" : "128";
        String more = family == 4 ? "33" : "129";
        Check.same("length beyond " + text, AddressTexts.NONE, Check.length(x, more));
        Check.same("length of " + text, Integer.parseInt(bits), Check.length(x, bits));
    }

    private static void wrongTexts() {
        for (String text : WRONG) {
            AddressTexts x = Check.pair("1.2.3.4/9", "5:6::/17");
            x.write();
            Check.same("read of '" + text + "'", AddressTexts.NONE, Check.read(x, text));
            Check.same("end(1) after '" + text + "'", false, x.end(1));
            Check.same("written after '" + text + "'", "1.2.3.4", Check.written(x));
            Check.one("after '" + text + "'", x, "1.2.3.4", 0L, 0x01020304L);
            Check.same("cut() after '" + text + "'", true, x.cut());
            Check.same("bits(1), cut, after '" + text + "'", 0x01000000L, x.bits(1));
            x.turn();
            Check.same("cut() of TWO after '" + text + "'", true, x.cut());
            Check.one("TWO after '" + text + "'", x, "5::", 0x0005000000000000L, 0L);
        }
    }

    private static void whatWasOneIsTwo() {
        AddressTexts x = new AddressTexts();
        String[] texts = {"1.1.1.1", "2::2", "3.3.3.3", "4::4", "5.5.5.5", "6.6.6.6"};
        for (int i = 0; i < texts.length; i++) {
            Check.same("read of " + texts[i], i % 2 == 0 || i == 5 ? 4 : 6, Check.read(x, texts[i]));
            Check.same("ONE", texts[i], Check.write(x));
            x.turn();
            Check.same("TWO", i == 0 ? "0.0.0.0" : texts[i - 1], Check.write(x));
            x.turn();
        }
        Check.same("read", 4, Check.read(x, "9.255.0.0"));
        Check.same("length", 8, Check.length(x, "8"));
        Check.same("read", 4, Check.read(x, "9.255.0.0"));
        Check.same("order(): TWO keeps its length", 1, x.order());
        x.turn();
        Check.same("cut() by the kept length", true, x.cut());
        Check.same("ONE", "9.0.0.0", Check.write(x));
        x.turn();
        Check.same("the other is not cut", "9.255.0.0", Check.write(x));
    }

    private static void wholeLengthAgain() {
        AddressTexts x = new AddressTexts();
        for (int i = 0; i < 4; i++) {
            String text = i % 2 == 0 ? "255.255.255.255" : "ffff:ffff:ffff:ffff:ffff:ffff:ffff:ffff";
            Check.read(x, text);
            Check.same("cut() of a new " + text, false, x.cut());
            Check.same("length", 0, Check.length(x, "0"));
        }
    }

    private static void everyDigitOfAnySize() {
        for (int c = 0; c < 256; c++) {
            AddressTexts x = new AddressTexts();
            int digit = c < 128 ? Character.digit((char) c, 16) : -1;
            // With : in this place the text is ":::", which is none either.
            Check.same("read of :: and byte " + c, digit < 0 ? AddressTexts.NONE : 6, Check.read(x, "::" + (char) c));
            Check.same("bits(1) of :: and byte " + c, digit < 0 ? 0L : (long) digit, x.bits(1));
            int decimal = digit > 9 ? -1 : digit;
            Check.same("read of 0.0.0. and byte " + c, decimal < 0 ? AddressTexts.NONE : 4, Check.read(x, "0.0.0." + (char) c));
        }
    }

    private static void theTapeIsEmptyThen() {
        AddressTexts x = new AddressTexts();
        Check.same("read", 6, Check.read(x, "::1"));
        Check.same("end(1)", false, x.end(1));
        Check.same("read()", AddressTexts.NONE, x.read());
        Check.same("length()", AddressTexts.NONE, x.length());
        Check.same("read", 4, Check.read(x, "4.3.2.1"));
        x.turn();
        Check.same("TWO", "::1", Check.write(x));
    }
}
