/** The class's own limit: all promises hold up to the 512th call, and later calls answer something too. */
public final class BoundaryCallsTest {
    private static final int CALLS = 512;

    public static void main(String[] args) {
        Check.sentence("An object is used for at most 512 calls");
        fullFeeds();
        refusedEnds();
        emptyReads();
        readsOfBothFamilies();
        lengthsAndCuts();
        turns();
        writes();
        answersOnly();
        Check.sentence("what later calls answer is free");
        laterCallsEndWithoutAnException();
        Check.finish();
    }

    private static void fullFeeds() {
        AddressTexts x = new AddressTexts();
        for (int call = 1; call <= CALLS - 3; call++) {
            Check.same("feed as call " + call, call <= 3, x.feed(0x39000000 + call, call, call, call, call));
        }
        Check.same("end(60)", true, x.end(60));
        Check.same("end(1)", true, x.end(1));
        Check.same("length() as call 512", 9, x.length());
    }

    private static void refusedEnds() {
        AddressTexts x = new AddressTexts();
        x.feed(0x39000000, 0, 0, 0, 0);
        for (int call = 2; call <= CALLS - 2; call++) {
            Check.same("end(" + (20 + call) + ") as call " + call, false, x.end(20 + call));
        }
        Check.same("end(20)", true, x.end(20));
        Check.same("end(21) as call 512", false, x.end(21));
    }

    private static void emptyReads() {
        AddressTexts x = new AddressTexts();
        for (int call = 1; call <= CALLS - 1; call++) {
            Check.same("read or length as call " + call, AddressTexts.NONE, call % 2 == 0 ? x.read() : x.length());
        }
        Check.same("order() as call 512", 0, x.order());
    }

    /** Three calls a text, so 170 texts, and two calls more. */
    private static void readsOfBothFamilies() {
        AddressTexts x = new AddressTexts();
        for (int text = 0; text < 170; text++) {
            boolean isFour = text % 2 == 0;
            x.feed(isFour ? 0x312E322E : 0x3A3A6600, 0x332E3400, 0, 0, 0);
            x.end(isFour ? 7 : 3);
            Check.same("read of text " + text, isFour ? 4 : 6, x.read());
        }
        Check.same("bits(1)", 0xfL, x.bits(1));
        Check.same("order() as call 512", 1, x.order());
    }

    /** Three calls a length and one for the cut behind it: 127 of them behind the first three calls. */
    private static void lengthsAndCuts() {
        AddressTexts x = new AddressTexts();
        x.feed(0x38303030, 0x3A3A3100, 0, 0, 0);
        x.end(7);
        Check.same("read", 6, x.read());
        for (int i = 0; i < 127; i++) {
            x.feed(0x30313233 << 8 * (i % 4), 0, 0, 0, 0);
            x.end(1);
            Check.same("length " + i, i % 4, x.length());
            Check.same("cut " + i, i == 0, x.cut());
        }
        Check.same("bits(0) as call 512", 0L, x.bits(0));
    }

    private static void turns() {
        AddressTexts x = new AddressTexts();
        x.feed(0x392E392E, 0x392E3900, 0, 0, 0);
        x.end(7);
        x.read();
        for (int call = 4; call <= CALLS - 1; call++) {
            x.turn();
        }
        Check.same("bits(1) as call 512, turned 508 times", 0x09090909L, x.bits(1));
    }

    private static void writes() {
        AddressTexts x = new AddressTexts();
        for (int call = 1; call <= CALLS - 2; call++) {
            Check.same("write() as call " + call, 7, x.write());
        }
        Check.same("writtenAt(7)", AddressTexts.NONE, x.writtenAt(7));
        Check.same("writtenAt(6) as call 512", (int) '0', x.writtenAt(6));
    }

    private static void answersOnly() {
        AddressTexts x = new AddressTexts();
        for (int call = 1; call <= CALLS - 4; call += 4) {
            Check.same("covers() as call " + call, true, x.covers());
            Check.same("order()", 0, x.order());
            Check.same("bits", 0L, x.bits(call));
            Check.same("writtenAt", AddressTexts.NONE, x.writtenAt(call));
        }
        Check.same("cut()", false, x.cut());
        Check.same("read()", AddressTexts.NONE, x.read());
        Check.same("write()", 7, x.write());
        Check.same("writtenAt(1) as call 512", (int) '.', x.writtenAt(1));
    }

    /** An exception would end this test with a code that is not 0. */
    private static void laterCallsEndWithoutAnException() {
        AddressTexts x = new AddressTexts();
        int[] numbers = {0, 1, -1, 60, 61, 39, 40, 0x3A3A3A3A, 0x312E322E, Integer.MIN_VALUE, Integer.MAX_VALUE};
        for (int i = 0; i < 20000; i++) {
            int number = numbers[i % numbers.length];
            x.feed(number, 0x3A3A3100, i, -i, number);
            x.end(number);
            x.end(i % 61);
            int read = i % 3 == 0 ? x.read() : x.length();
            Check.same("an answer of its kind", true, read >= AddressTexts.NONE && read <= 128);
            x.cut();
            x.covers();
            x.order();
            x.turn();
            x.write();
            x.writtenAt(number);
            x.bits(number);
        }
    }
}
