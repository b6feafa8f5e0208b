public final class Promise09TurnTest {
    public static void main(String[] args) {
        addressesAndLengths();
        keepsTapeAndWritten();
        newObject();
        Check.finish();
    }

    private static void addressesAndLengths() {
        AddressTexts x = Check.pair("1.2.3.4/8", "5:6:7::8/40");
        x.turn();
        Check.one("turned once", x, "5:6:7::8", 0x0005000600070000L, 8L);
        Check.same("order(), turned once", 1, x.order());
        Check.same("cut(), turned once", true, x.cut());
        Check.one("cut", x, "5:6::", 0x0005000600000000L, 0L);
        x.turn();
        Check.one("turned twice", x, "1.2.3.4", 0L, 0x01020304L);
        Check.same("order(), turned twice", -1, x.order());
        Check.same("cut(), turned twice", true, x.cut());
        Check.one("cut", x, "1.0.0.0", 0L, 0x01000000L);
        x.turn();
        Check.one("turned thrice", x, "5:6::", 0x0005000600000000L, 0L);
        Check.same("read", 4, Check.read(x, "9.9.9.9"));
        x.turn();
        Check.one("turned after a read", x, "5:6::", 0x0005000600000000L, 0L);
    }

    private static void keepsTapeAndWritten() {
        AddressTexts x = Check.pair("1.2.3.4/8", "5::/40");
        x.write();
        Check.tape(x, "12");
        x.turn();
        Check.same("written, turned", "1.2.3.4", Check.written(x));
        Check.same("length() of the kept tape", 12, x.length());
        x.turn();
        Check.same("cut() of what was ONE", true, x.cut());
        Check.same("write", "1.0.0.0", Check.write(x));
    }

    private static void newObject() {
        AddressTexts x = new AddressTexts();
        x.turn();
        Check.one("turned when new", x, "0.0.0.0", 0L, 0L);
        Check.same("order()", 0, x.order());
    }
}
