public final class Promise03EndTest {
    public static void main(String[] args) {
        onlyTheFirstBytesCount();
        refusesWhatIsNotThere();
        whatIsBehindIsGone();
        noneLeft();
        Check.finish();
    }

    private static AddressTexts withDigits() {
        AddressTexts x = new AddressTexts();
        Check.same("feed", true, x.feed(0x31323334, 0x35363738, 0x31323334, 0x35363738, 0x31323334));
        return x;
    }

    private static void onlyTheFirstBytesCount() {
        AddressTexts x = withDigits();
        Check.same("end(20)", true, x.end(20));
        Check.same("end(5)", true, x.end(5));
        Check.same("end(2)", true, x.end(2));
        Check.same("length()", 12, x.length());
        Check.same("length() of the tape left empty", AddressTexts.NONE, x.length());
    }

    private static void refusesWhatIsNotThere() {
        int[] refused = {21, 22, 60, 61, Integer.MAX_VALUE, -1, -2, -20, Integer.MIN_VALUE};
        for (int n : refused) {
            AddressTexts x = withDigits();
            Check.same("end(" + n + ")", false, x.end(n));
            Check.same("end(20) after end(" + n + ")", true, x.end(20));
            Check.same("end(1) after end(" + n + ")", true, x.end(1));
            Check.same("end(2) behind end(1)", false, x.end(2));
            Check.same("end(-1) behind end(1)", false, x.end(-1));
            Check.same("length() after end(" + n + ")", 1, x.length());
        }
    }

    private static void whatIsBehindIsGone() {
        AddressTexts x = withDigits();
        Check.same("end(1)", true, x.end(1));
        Check.same("feed", true, x.feed(0x39000000, 0, 0, 0, 0));
        Check.same("end(22)", false, x.end(22));
        Check.same("end(21)", true, x.end(21));
        Check.same("end(2)", true, x.end(2));
        Check.same("length()", 19, x.length());
    }

    private static void noneLeft() {
        AddressTexts x = withDigits();
        Check.same("end(0)", true, x.end(0));
        Check.same("end(1)", false, x.end(1));
        Check.same("read()", AddressTexts.NONE, x.read());
        for (int i = 0; i < 3; i++) {
            Check.same("feed " + i, true, x.feed(0, 0, 0, 0, 0));
        }
    }
}
