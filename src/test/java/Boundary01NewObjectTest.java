/** Promise 1, sentence by sentence. */
public final class Boundary01NewObjectTest {
    public static void main(String[] args) {
        oneIsZeroWithLength32();
        twoIsZeroWithLength32();
        nothingIsWritten();
        theTapeIsEmpty();
        Check.finish();
    }

    /** A 0.0.0.0 of each length is read beside the new object's: only the one of 32 is the same. */
    private static void oneIsZeroWithLength32() {
        Check.sentence("ONE .. 0.0.0.0 with length 32");
        for (int length = 0; length <= 32; length++) {
            AddressTexts x = new AddressTexts();
            Check.prefix(x, "0.0.0.0/" + length);
            Check.same("order() of length " + length + " and the first ONE", length < 32 ? -1 : 0, x.order());
            x.turn();
            Check.same("the first ONE covers length " + length, length == 32, x.covers());
        }
        AddressTexts x = new AddressTexts();
        Check.same("length beyond family 4", AddressTexts.NONE, Check.length(x, "33"));
        Check.one("of the first ONE", x, "0.0.0.0", 0L, 0L);
    }

    private static void twoIsZeroWithLength32() {
        Check.sentence("TWO .. 0.0.0.0 with length 32");
        for (int length = 0; length <= 32; length++) {
            AddressTexts x = new AddressTexts();
            Check.same("length", length, Check.length(x, String.valueOf(length)));
            Check.same("order() of length " + length + " and the first TWO", length < 32 ? -1 : 0, x.order());
            Check.same("length " + length + " covers the first TWO", true, x.covers());
        }
        AddressTexts x = new AddressTexts();
        x.turn();
        Check.same("length beyond family 4", AddressTexts.NONE, Check.length(x, "33"));
        Check.one("of the first TWO", x, "0.0.0.0", 0L, 0L);
    }

    private static void nothingIsWritten() {
        Check.sentence("nothing is written");
        AddressTexts x = new AddressTexts();
        for (int i = -1; i <= 61; i++) {
            Check.same("writtenAt(" + i + ")", AddressTexts.NONE, x.writtenAt(i));
        }
        Check.same("writtenAt(least)", AddressTexts.NONE, x.writtenAt(Integer.MIN_VALUE));
        Check.same("writtenAt(most)", AddressTexts.NONE, x.writtenAt(Integer.MAX_VALUE));
    }

    private static void theTapeIsEmpty() {
        Check.sentence("the tape is empty");
        Check.same("the tape's bytes", 0, State.tapeCount(new AddressTexts()));
        Check.same("read()", AddressTexts.NONE, new AddressTexts().read());
        Check.same("length()", AddressTexts.NONE, new AddressTexts().length());
        AddressTexts x = new AddressTexts();
        Check.same("feed to 20", true, x.feed(0, 0, 0, 0, 0));
        Check.same("feed to 40", true, x.feed(0, 0, 0, 0, 0));
        Check.same("feed to 60", true, x.feed(0, 0, 0, 0, 0));
        Check.same("feed to 80", false, x.feed(0, 0, 0, 0, 0));
    }
}
