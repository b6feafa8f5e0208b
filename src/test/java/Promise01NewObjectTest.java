public final class Promise01NewObjectTest {
    public static void main(String[] args) {
        nothingIsWritten();
        theTapeIsEmpty();
        bothAddressesAreZero();
        objectsAreApart();
        Check.finish();
    }

    private static void nothingIsWritten() {
        AddressTexts x = new AddressTexts();
        for (int i = -2; i < 62; i++) {
            Check.same("writtenAt(" + i + ")", AddressTexts.NONE, x.writtenAt(i));
        }
    }

    private static void theTapeIsEmpty() {
        AddressTexts x = new AddressTexts();
        Check.same("end(1)", false, x.end(1));
        Check.same("end(0)", true, x.end(0));
        Check.same("read()", AddressTexts.NONE, x.read());
        Check.same("length()", AddressTexts.NONE, x.length());
        for (int i = 0; i < 3; i++) {
            Check.same("feed " + i, true, x.feed(0, 0, 0, 0, 0));
        }
        Check.same("feed 3", false, x.feed(0, 0, 0, 0, 0));
    }

    private static void bothAddressesAreZero() {
        AddressTexts x = new AddressTexts();
        Check.same("order()", 0, x.order());
        Check.same("covers()", true, x.covers());
        Check.same("cut()", false, x.cut());
        Check.one("of ONE", x, "0.0.0.0", 0L, 0L);
        x.turn();
        Check.one("of TWO", x, "0.0.0.0", 0L, 0L);

        AddressTexts whole = new AddressTexts();
        Check.same("read", 4, Check.read(whole, "0.0.0.0"));
        Check.same("order() against a whole length", 0, whole.order());
        Check.same("length", 31, Check.length(whole, "31"));
        Check.same("order() against a lesser length", -1, whole.order());
        whole.turn();
        Check.same("length", 32, Check.length(whole, "32"));
        Check.same("length of the first ONE beyond its family", AddressTexts.NONE, Check.length(whole, "33"));
    }

    private static void objectsAreApart() {
        AddressTexts x = new AddressTexts();
        AddressTexts y = new AddressTexts();
        Check.same("read", 4, Check.read(x, "1.2.3.4"));
        x.write();
        x.feed(1, 2, 3, 4, 5);
        Check.same("writtenAt(0) of the other", AddressTexts.NONE, y.writtenAt(0));
        Check.same("end(1) of the other", false, y.end(1));
        Check.same("bits(1) of the other", 0L, y.bits(1));
    }
}
