/** Promise 5, sentence by sentence. */
public final class Boundary05LengthTest {
    private static final String[] NOT_SO = {
        "", "00", "01", "08", "008", "032", "0128", "-1", "-0", "+8", " 8", "8 ", "8\0", "\0008", "1 2", "8.", ".8", "8.0", "1e1", "0x8",
        "/8", "8/", "8:", ":8", "a", "f", "1f", "F", "\u00b8", "1\u00b8",
    };
    private static final String[] FAR_BEYOND = {
        "129", "130", "199", "200", "256", "264", "288", "999", "1000", "1280", "65536", "65544", "2147483647", "2147483648", "4294967295",
        "4294967296", "4294967304", "9223372036854775808", "18446744073709551616", "18446744073709551624", "1" + "0".repeat(59),
        "9".repeat(60),
    };

    public static void main(String[] args) {
        everyLengthOf("255.255.255.255", 32);
        everyLengthOf(State.ALL_6, 128);
        zeroIsALength();
        withoutZerosAhead();
        theTapeIsEmptyThen();
        digitsAlone();
        beyondTheFamilysBits();
        theFamilyIsThatOfOne();
        noneChangesNoLength();
        Check.finish();
    }

    private static AddressTexts with(String address) {
        AddressTexts x = new AddressTexts();
        Check.read(x, address);
        return x;
    }

    private static void isNone(String address, String text) {
        Check.same("length of '" + text + "' for " + address, AddressTexts.NONE, Check.length(with(address), text));
    }

    /** All bits are set, so those that a cut leaves tell the length that was taken. */
    private static void everyLengthOf(String address, int bits) {
        Check.sentence("a length 0 .. 32 or 0 .. 128");
        for (int length = 0; length <= bits; length++) {
            AddressTexts x = with(address);
            Check.same("length of " + length, length, Check.length(x, String.valueOf(length)));
            x.cut();
            Check.same("bits that a cut leaves", length, Long.bitCount(x.bits(0)) + Long.bitCount(x.bits(1)));
        }
        for (int length = bits + 1; length <= bits + 200; length++) {
            isNone(address, String.valueOf(length));
        }
    }

    private static void zeroIsALength() {
        Check.sentence("a length 0");
        Check.same("length of 0", 0, Check.length(with("1.2.3.4"), "0"));
        Check.same("length of 0", 0, Check.length(with("1::"), "0"));
        Check.same("length of 0 of a new object", 0, Check.length(new AddressTexts(), "0"));
    }

    private static void withoutZerosAhead() {
        Check.sentence("without 0s ahead in decimal");
        for (int length = 0; length <= 32; length++) {
            isNone("1.2.3.4", "0" + length);
            isNone("1::", "0" + length);
            isNone("1::", "00" + length);
            isNone("1::", "0".repeat(58) + length);
        }
        Check.same("length of 10", 10, Check.length(with("1.2.3.4"), "10"));
        Check.same("length of 100", 100, Check.length(with("1::"), "100"));
    }

    private static void theTapeIsEmptyThen() {
        Check.sentence("on the tape (empty then)");
        String[] texts = {"0", "32", "33", "", "x", "9".repeat(60)};
        for (String text : texts) {
            AddressTexts x = State.sample(text);
            x.length();
            Check.same("the tape's bytes after '" + text + "'", 0, State.tapeCount(x));
            Check.same("length() again", AddressTexts.NONE, x.length());
        }
    }

    private static void digitsAlone() {
        Check.sentence("NONE, when it isn't so (digits alone)");
        for (String text : NOT_SO) {
            isNone("255.255.255.255", text);
            isNone(State.ALL_6, text);
        }
        for (int c = 0; c < 256; c++) {
            if (c < '0' || c > '9') {
                isNone("::", String.valueOf((char) c));
                isNone("::", (char) c + "1");
                isNone("::", "1" + (char) c);
            }
        }
    }

    private static void beyondTheFamilysBits() {
        Check.sentence("NONE, when .. beyond the family's bits");
        isNone("1.2.3.4", "33");
        isNone("1.2.3.4", "64");
        isNone("1.2.3.4", "128");
        for (String text : FAR_BEYOND) {
            isNone("1.2.3.4", text);
            isNone("1::", text);
        }
    }

    private static void theFamilyIsThatOfOne() {
        Check.sentence("the family's bits");
        AddressTexts x = Check.pair("1.2.3.4/8", "1::/8");
        Check.same("length of 33 for family 4", AddressTexts.NONE, Check.length(x, "33"));
        x.turn();
        Check.same("length of 33 for family 6", 33, Check.length(x, "33"));
        x.turn();
        Check.same("length of 33 for family 4, turned", AddressTexts.NONE, Check.length(x, "33"));
        Check.read(x, "::");
        Check.same("length of 128 after a read of family 6", 128, Check.length(x, "128"));
        Check.read(x, "1.2.3.4");
        Check.same("length of 128 after a read of family 4", AddressTexts.NONE, Check.length(x, "128"));
    }

    private static void noneChangesNoLength() {
        Check.sentence("NONE: ONE's length stays");
        for (String text : NOT_SO) {
            AddressTexts x = State.sample(text);
            Check.same("length() of '" + text + "'", AddressTexts.NONE, x.length());
            Check.same("state after '" + text + "'", State.ofSample(0, "NONE"), State.of(x, 0));
        }
        for (String text : FAR_BEYOND) {
            AddressTexts x = State.sample(text);
            Check.same("length() of '" + text + "'", AddressTexts.NONE, x.length());
            Check.same("state after '" + text + "'", State.ofSample(0, "NONE"), State.of(x, 0));
        }
        AddressTexts taken = State.sample("0");
        Check.same("length()", 0, taken.length());
        String due = "tape 0, written 1.2.3.4, ONE " + State.ALL_4 + "/0, TWO " + State.ALL_6 + "/17, tape reads NONE";
        Check.same("state after a length", due, State.of(taken, 0));
    }
}
