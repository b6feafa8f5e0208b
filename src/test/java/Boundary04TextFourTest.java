/** What the document's terms say of a text of family 4, and of a text's bytes. */
public final class Boundary04TextFourTest {
    public static void main(String[] args) {
        thirtyTwoBits();
        fourNumbers();
        from0To255();
        farBeyond255();
        withoutZerosAhead();
        digitsAlone();
        pointsBetween();
        aTextWithoutColonIsNeverOfFamily6();
        atMostSixtyBytes();
        Check.finish();
    }

    private static void isFour(String text, long bits) {
        AddressTexts x = new AddressTexts();
        Check.same("read of '" + text + "'", 4, Check.read(x, text));
        Check.same("bits(1) of '" + text + "'", bits, x.bits(1));
        Check.same("bits(0) of '" + text + "'", 0L, x.bits(0));
    }

    private static void isNone(String text) {
        Check.same("read of '" + text + "'", AddressTexts.NONE, Check.read(new AddressTexts(), text));
    }

    /** A text with one of its four numbers put in another's stead. */
    private static String withNumber(int place, String number) {
        String[] numbers = {"1", "2", "3", "4"};
        numbers[place] = number;
        return String.join(".", numbers);
    }

    private static long bitsWithNumber(int place, int number) {
        int shift = 24 - 8 * place;
        return 0x01020304L & ~(255L << shift) | (long) number << shift;
    }

    private static void thirtyTwoBits() {
        Check.sentence("FAMILY 4 has addresses of 32 bits");
        isFour("0.0.0.0", 0L);
        isFour("0.0.0.1", 1L);
        isFour("127.255.255.255", 0x7fffffffL);
        isFour("128.0.0.0", 0x80000000L);
        isFour("255.255.255.255", 0xffffffffL);
    }

    private static void fourNumbers() {
        Check.sentence("four numbers");
        isFour("1.2.3.4", 0x01020304L);
        isNone("1");
        isNone("1.2");
        isNone("1.2.3");
        isNone("1.2.3.4.5");
        isNone("1.2.3.4.5.6.7.8");
        isNone("0.0.0.0.0");
        isNone("16909060");
    }

    private static void from0To255() {
        Check.sentence("numbers 0 .. 255");
        for (int place = 0; place < 4; place++) {
            for (int number = 0; number <= 300; number++) {
                String text = withNumber(place, String.valueOf(number));
                if (number <= 255) {
                    isFour(text, bitsWithNumber(place, number));
                } else {
                    isNone(text);
                }
            }
        }
    }

    /** Numbers that are small again when they wrap around at 8, 16, 32 or 64 bits. */
    private static void farBeyond255() {
        Check.sentence("numbers 0 .. 255: beyond them");
        String[] beyond = {
            "257", "512", "999", "1000", "2550", "65536", "65537", "2147483647", "2147483648", "4294967295", "4294967296",
            "4294967297", "9223372036854775808", "18446744073709551615", "18446744073709551616", "18446744073709551617",
            "1" + "0".repeat(40), "9".repeat(50),
        };
        for (int place = 0; place < 4; place++) {
            for (String number : beyond) {
                isNone(withNumber(place, number));
            }
        }
    }

    private static void withoutZerosAhead() {
        Check.sentence("without 0s ahead");
        String[] ahead = {"00", "000", "01", "001", "0001", "010", "099", "0255", "00255", "0".repeat(50)};
        for (int place = 0; place < 4; place++) {
            isFour(withNumber(place, "0"), bitsWithNumber(place, 0));
            isFour(withNumber(place, "10"), bitsWithNumber(place, 10));
            isFour(withNumber(place, "100"), bitsWithNumber(place, 100));
            for (String number : ahead) {
                isNone(withNumber(place, number));
            }
        }
    }

    private static void digitsAlone() {
        Check.sentence("numbers");
        for (int c = 0; c < 256; c++) {
            if (c >= '0' && c <= '9' || c == '.') {
                continue;
            }
            for (int place = 0; place < 4; place++) {
                isNone(withNumber(place, String.valueOf((char) c)));
                isNone(withNumber(place, (char) c + "1"));
                isNone(withNumber(place, "1" + (char) c));
            }
        }
    }

    private static void pointsBetween() {
        Check.sentence("with . between");
        isNone(".1.2.3.4");
        isNone("1.2.3.4.");
        isNone(".1.2.3");
        isNone("1.2.3.");
        isNone("1..2.3.4");
        isNone("1..2.3");
        isNone("1.2..4");
        isNone("...");
        isNone("....");
        isNone(".");
        for (int c = 0; c < 256; c++) {
            if (c != '.') {
                isNone("1" + (char) c + "2.3.4");
                isNone("1.2" + (char) c + "3.4");
                isNone("1.2.3" + (char) c + "4");
            }
        }
    }

    private static void aTextWithoutColonIsNeverOfFamily6() {
        Check.sentence("Of family 6 (a text with : in it)");
        isNone("abcd");
        isNone("1234567890abcdef");
        isNone("1.2.3.4.5.6.7.8");
        isNone("f.f.f.f");
    }

    /** The longest text that is one has 15 bytes; whatever stands behind it, up to 60, spoils it. */
    private static void atMostSixtyBytes() {
        Check.sentence("Texts have at most 60 bytes");
        isFour("255.255.255.255", 0xffffffffL);
        for (int count = 16; count <= 60; count++) {
            isNone("255.255.255.255" + "\0".repeat(count - 15));
            isNone("255.255.255.255" + "5".repeat(count - 15));
            isNone(" ".repeat(count - 15) + "255.255.255.255");
        }
        isNone("0".repeat(60));
        isNone(".".repeat(60));
        isNone("1.".repeat(30));
    }
}
