public final class Promise11WrittenAtTest {
    public static void main(String[] args) {
        bytesOfTheText();
        noneOutside();
        aShorterTextReplacesALonger();
        staysTillTheNextWrite();
        Check.finish();
    }

    private static void bytesOfTheText() {
        String text = "abcd:ef01:2345:6789:abcd:ef01:2345:678f";
        AddressTexts x = new AddressTexts();
        Check.read(x, text);
        Check.same("write()", 39, x.write());
        for (int i = 0; i < text.length(); i++) {
            Check.same("writtenAt(" + i + ")", (int) text.charAt(i), x.writtenAt(i));
        }
        for (int i = text.length(); i < 70; i++) {
            Check.same("writtenAt(" + i + ")", AddressTexts.NONE, x.writtenAt(i));
        }
    }

    private static void noneOutside() {
        AddressTexts x = new AddressTexts();
        x.write();
        int[] outside = {-1, -2, 7, 8, 38, 39, 40, 60, Integer.MIN_VALUE, Integer.MAX_VALUE};
        for (int i : outside) {
            Check.same("writtenAt(" + i + ")", AddressTexts.NONE, x.writtenAt(i));
        }
        Check.same("writtenAt(0)", (int) '0', x.writtenAt(0));
        Check.same("writtenAt(6)", (int) '0', x.writtenAt(6));
    }

    private static void aShorterTextReplacesALonger() {
        AddressTexts x = new AddressTexts();
        Check.read(x, "255.255.255.255");
        Check.same("write()", 15, x.write());
        Check.read(x, "::");
        Check.same("write()", 2, x.write());
        Check.same("writtenAt(1)", (int) ':', x.writtenAt(1));
        for (int i = 2; i < 16; i++) {
            Check.same("writtenAt(" + i + ")", AddressTexts.NONE, x.writtenAt(i));
        }
    }

    private static void staysTillTheNextWrite() {
        AddressTexts x = new AddressTexts();
        Check.read(x, "1.2.3.4");
        Check.same("written before a write", "", Check.written(x));
        x.write();
        Check.read(x, "::1");
        Check.same("written after a read", "1.2.3.4", Check.written(x));
        Check.length(x, "0");
        x.cut();
        x.turn();
        x.covers();
        x.order();
        Check.read(x, "wrong");
        Check.same("written after all others", "1.2.3.4", Check.written(x));
    }
}
