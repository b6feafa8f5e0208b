public final class Promise03EndTest {
    public static void main(String[] args) {
        onlyTheFirstBytesCount();
        refusesWhatIsNotThere();
        whatIsBehindIsGone();
        whatIsBehindIsNotSeen();
        noneLeft();
        Check.finish();
    }

    private static AddressTexts withDigits() {
        AddressTexts x = new AddressTexts();
        Check.same("feed", true, x.feed(0x31323334, 0x35363738, 0x31323334, 0x35363738, 0x31323334));
        return x;
    }

    private static void onlyTheFirstBytesCount() {
        AddressTexts x = withDigits();
        Check.same("end(20)", true, x.end(20));
        Check.same("end(5)", true, x.end(5));
        Check.same("end(2)", true, x.end(2));
        Check.same("length()", 12, x.length());
        Check.same("length() of the tape left empty", AddressTexts.NONE, x.length());
    }

    private static void refusesWhatIsNotThere() {
        int[] refused = {21, 22, 60, 61, Integer.MAX_VALUE, -1, -2, -20, Integer.MIN_VALUE};
        for (int n : refused) {
            AddressTexts x = withDigits();
            Check.same("end(" + n + ")", false, x.end(n));
            Check.same("end(20) after end(" + n + ")", true, x.end(20));
            Check.same("end(1) after end(" + n + ")", true, x.end(1));
            Check.same("end(2) behind end(1)", false, x.end(2));
            Check.same("end(-1) behind end(1)", false, x.end(-1));
            Check.same("length() after end(" + n + ")", 1, x.length());
        }
    }

    private static void whatIsBehindIsGone() {
        AddressTexts x = withDigits();
        Check.same("end(1)", true, x.end(1));
        Check.same("feed", true, x.feed(0x39000000, 0, 0, 0, 0));
        Check.same("end(22)", false, x.end(22));
        Check.same("end(21)", true, x.end(21));
        Check.same("end(2)", true, x.end(2));
        Check.same("length()", 19, x.length());
    }

    /** Each text would be right with the bytes that follow, but not as it ends. */
    private static void whatIsBehindIsNotSeen() {
        String[] texts = {"1:2:3:4:5:6:7::", "1::", "::", "1.2.3.4", "1:2:3:4:5:6:7:8"};
        for (String text : texts) {
            AddressTexts x = new AddressTexts();
            Check.tape(x, text);
            Check.same("end within " + text, true, x.end(text.length() - 1));
            Check.same("read() of " + text + " without its last byte", AddressTexts.NONE, x.read());
        }
        AddressTexts full = new AddressTexts();
        Check.same("read of sixty bytes", AddressTexts.NONE, Check.read(full, "1".repeat(59) + ":"));
    }

    private static void noneLeft() {
        AddressTexts x = withDigits();
        Check.same("end(0)", true, x.end(0));
        Check.same("end(1)", false, x.end(1));
        Check.same("read()", AddressTexts.NONE, x.read());
        for (int i = 0; i < 3; i++) {
            Check.same("feed " + i, true, x.feed(0, 0, 0, 0, 0));
        }
    }
}
