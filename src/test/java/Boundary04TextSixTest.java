/** What the document's terms say of a text of family 6. */
public final class Boundary04TextSixTest {
    private static final String EIGHT = "1:2:3:4:5:6:7:8";

    public static void main(String[] args) {
        hundredAndTwentyEightBits();
        aColonMakesItFamily6();
        eightParts();
        oneToFourDigits();
        hexadecimalDigitsOfAnySize();
        noOtherByte();
        colonsBetween();
        aGapOfOneOrMore();
        noGapOfNone();
        theGapAtOnePlace();
        noMoreThanTwoColons();
        atMostSixtyBytes();
        Check.finish();
    }

    private static void isSix(String text, long upper, long lower) {
        AddressTexts x = new AddressTexts();
        Check.same("read of '" + text + "'", 6, Check.read(x, text));
        Check.same("bits(0) of '" + text + "'", upper, x.bits(0));
        Check.same("bits(1) of '" + text + "'", lower, x.bits(1));
    }

    private static void isNone(String text) {
        Check.same("read of '" + text + "'", AddressTexts.NONE, Check.read(new AddressTexts(), text));
    }

    /** Parts 1 .. 8 from one to another with : between, nothing when there is none. */
    private static String parts(int from, int to) {
        StringBuilder text = new StringBuilder();
        for (int part = from; part <= to; part++) {
            text.append(part == from ? "" : ":").append(part);
        }
        return text.toString();
    }

    /** The four parts of a half, of which those from one to another are 0. */
    private static long half(int first, int from, int to) {
        long bits = 0;
        for (int part = first; part < first + 4; part++) {
            bits = bits << 16 | (part >= from && part <= to ? 0 : part);
        }
        return bits;
    }

    private static String withPart(int place, String part) {
        String[] parts = EIGHT.split(":");
        parts[place] = part;
        return String.join(":", parts);
    }

    private static void isSixWithPart(int place, String part, int value) {
        AddressTexts x = new AddressTexts();
        String text = withPart(place, part);
        Check.same("read of '" + text + "'", 6, Check.read(x, text));
        long bits = x.bits(place / 4) >>> (48 - 16 * (place % 4)) & 0xffff;
        Check.same("part " + place + " of '" + text + "'", (long) value, bits);
        Check.same("the other half of '" + text + "'", half(place < 4 ? 5 : 1, 0, 0), x.bits(1 - place / 4));
    }

    private static void hundredAndTwentyEightBits() {
        Check.sentence("6 of 128");
        isSix("0:0:0:0:0:0:0:0", 0L, 0L);
        isSix("0:0:0:0:0:0:0:1", 0L, 1L);
        isSix("0:0:0:0:8000:0:0:0", 0L, 0x8000000000000000L);
        isSix("0:0:0:1:0:0:0:0", 1L, 0L);
        isSix("8000:0:0:0:0:0:0:0", 0x8000000000000000L, 0L);
        isSix(State.ALL_6, -1L, -1L);
    }

    private static void aColonMakesItFamily6() {
        Check.sentence("Of family 6 (a text with : in it)");
        isNone("1.2.3.4:");
        isNone(":1.2.3.4");
        isNone("1.2.3:4");
        isNone("1.2.3.4::");
        isNone("::1.2.3.4");
        isNone("::ffff:1.2.3.4");
        isNone("1:2:3:4:5:6:1.2.3.4");
        isNone("1:2:3:4:5:6:7:1.2.3.4");
    }

    private static void eightParts() {
        Check.sentence("eight parts");
        isSix(EIGHT, 0x0001000200030004L, 0x0005000600070008L);
        for (int count = 1; count <= 7; count++) {
            isNone(parts(1, count) + (count == 1 ? ":" : ""));
        }
        isNone(EIGHT + ":9");
        isNone(EIGHT + ":0");
        isNone("0:" + EIGHT);
        isNone(EIGHT + ":" + EIGHT);
    }

    private static void oneToFourDigits() {
        Check.sentence("parts of one to four .. digits");
        for (int place = 0; place < 8; place++) {
            isSixWithPart(place, "0", 0);
            isSixWithPart(place, "f", 0xf);
            isSixWithPart(place, "10", 0x10);
            isSixWithPart(place, "fff", 0xfff);
            isSixWithPart(place, "1000", 0x1000);
            isSixWithPart(place, "ffff", 0xffff);
            isSixWithPart(place, "00", 0);
            isSixWithPart(place, "0000", 0);
            isSixWithPart(place, "000f", 0xf);
            isNone(withPart(place, "00000"));
            isNone(withPart(place, "00001"));
            isNone(withPart(place, "10000"));
            isNone(withPart(place, "fffff"));
            isNone(withPart(place, "100000000"));
            isNone(withPart(place, "10000000000000001"));
            isNone(withPart(place, "0".repeat(45)));
        }
    }

    private static void hexadecimalDigitsOfAnySize() {
        Check.sentence("hexadecimal digits (of any size)");
        String digits = "0123456789abcdef";
        for (int place = 0; place < 8; place++) {
            for (int digit = 0; digit < 16; digit++) {
                String small = digits.substring(digit, digit + 1);
                isSixWithPart(place, small, digit);
                isSixWithPart(place, small.toUpperCase(), digit);
                isSixWithPart(place, small + small.toUpperCase() + "0" + small, digit * 0x1101);
            }
        }
    }

    private static void noOtherByte() {
        Check.sentence("hexadecimal digits");
        for (int c = 0; c < 256; c++) {
            if (c == ':' || c < 128 && Character.digit((char) c, 16) >= 0) {
                continue;
            }
            for (int place = 0; place < 8; place++) {
                isNone(withPart(place, String.valueOf((char) c)));
                isNone(withPart(place, (char) c + "1"));
                isNone(withPart(place, "1" + (char) c));
            }
            isNone("::" + (char) c);
            isNone((char) c + "::");
        }
    }

    private static void colonsBetween() {
        Check.sentence("with : between");
        isNone(":");
        isNone(":" + EIGHT);
        isNone(EIGHT + ":");
        isNone(":" + parts(1, 7));
        isNone(parts(1, 7) + ":");
        isNone(":1::");
        isNone("::1:");
        isNone(":1::2");
        isNone("1::2:");
        for (int c = 0; c < 256; c++) {
            if (c != ':' && (c >= 128 || Character.digit((char) c, 16) < 0)) {
                isNone("1" + (char) c + "2:3:4:5:6:7:8");
                isNone("1:2:3:4:5:6:7" + (char) c + "8");
            }
        }
    }

    /** Every row of one or more of the eight parts has :: in its stead once. */
    private static void aGapOfOneOrMore() {
        Check.sentence(":: for one or more parts 0");
        for (int from = 1; from <= 8; from++) {
            for (int to = from; to <= 8; to++) {
                isSix(parts(1, from - 1) + "::" + parts(to + 1, 8), half(1, from, to), half(5, from, to));
            }
        }
    }

    private static void noGapOfNone() {
        Check.sentence(":: for one or more parts 0: not for none");
        for (int ahead = 0; ahead <= 8; ahead++) {
            isNone(parts(1, ahead) + "::" + parts(ahead + 1, 8));
            isNone(parts(0, ahead) + "::" + parts(ahead + 1, 8));
        }
    }

    private static void theGapAtOnePlace() {
        Check.sentence("at one place ::");
        isNone("1::2::3");
        isNone("::1::");
        isNone("::1::2");
        isNone("1::2::");
        isNone("1::2:3:4:5::6");
        isNone("::2:3:4:5:6::");
        isNone("::1::2::3::");
    }

    private static void noMoreThanTwoColons() {
        Check.sentence("::");
        isNone(":::");
        isNone("::::");
        isNone("1:::");
        isNone(":::1");
        isNone("1:::2");
        isNone("1::::2");
        isNone(parts(1, 6) + ":::8");
    }

    /** The longest text that is one has 39 bytes; whatever stands behind it, up to 60, spoils it. */
    private static void atMostSixtyBytes() {
        Check.sentence("Texts have at most 60 bytes");
        isSix(State.ALL_6, -1L, -1L);
        for (int count = 40; count <= 60; count++) {
            isNone(State.ALL_6 + "\0".repeat(count - 39));
            isNone(State.ALL_6 + "f".repeat(count - 39));
            isNone(State.ALL_6 + ":".repeat(count - 39));
            isNone(" ".repeat(count - 39) + State.ALL_6);
        }
        isNone("1:".repeat(30));
        isNone(":1".repeat(30));
        isNone("::".repeat(30));
        isNone("::" + "0".repeat(58));
        isNone("0".repeat(58) + "::");
    }
}
