/** Promise 11, sentence by sentence. */
public final class Boundary11WrittenAtTest {
    private static final int[] FAR = {-256, -40, -2, 40, 60, 255, 256, 65536, Integer.MIN_VALUE, Integer.MIN_VALUE + 1, Integer.MAX_VALUE};

    public static void main(String[] args) {
        everyByte();
        noneBeforeAnythingWasWritten();
        noneBelowTheFirst();
        noneBehindTheLast();
        noneOfALongerTextBefore();
        onlyAWriteWrites();
        changesNothing();
        Check.finish();
    }

    private static AddressTexts written(String text) {
        AddressTexts x = new AddressTexts();
        Check.read(x, text);
        Check.same("write() of " + text, text.length(), x.write());
        return x;
    }

    private static void everyByte() {
        Check.sentence("Byte i of what was written");
        String[] texts = {"::", "0.0.0.0", "10.200.3.44", State.ALL_4, "1:23:456:789a::bcde:f", "1234:5678:9abc:def1:2345:6789:abcd:ef12"};
        for (String text : texts) {
            AddressTexts x = written(text);
            for (int i = 0; i < text.length(); i++) {
                Check.same("writtenAt(" + i + ") of " + text, (int) text.charAt(i), x.writtenAt(i));
            }
            for (int i = text.length() - 1; i >= 0; i--) {
                Check.same("writtenAt(" + i + ") of " + text + ", backwards", (int) text.charAt(i), x.writtenAt(i));
            }
        }
    }

    /** Neither a read nor any other call but write() writes. */
    private static void noneBeforeAnythingWasWritten() {
        Check.sentence("NONE when there is none: nothing was written");
        AddressTexts x = new AddressTexts();
        Check.same("writtenAt(0) of a new object", AddressTexts.NONE, x.writtenAt(0));
        Check.prefix(x, "1.2.3.4/8");
        x.cut();
        x.turn();
        x.covers();
        x.order();
        x.bits(1);
        for (int i = -1; i <= 60; i++) {
            Check.same("writtenAt(" + i + ") before a write", AddressTexts.NONE, x.writtenAt(i));
        }
    }

    private static void noneBelowTheFirst() {
        Check.sentence("NONE when there is none: i below 0");
        String[] texts = {"::", "1.2.3.4", State.ALL_6};
        for (String text : texts) {
            AddressTexts x = written(text);
            Check.same("writtenAt(-1) of " + text, AddressTexts.NONE, x.writtenAt(-1));
            for (int i : FAR) {
                Check.same("writtenAt(" + i + ") of " + text, AddressTexts.NONE, x.writtenAt(i));
            }
        }
    }

    private static void noneBehindTheLast() {
        Check.sentence("NONE when there is none: i is the count, or more");
        String[] texts = {"::", "1.2.3.4", State.ALL_4, State.ALL_6};
        for (String text : texts) {
            AddressTexts x = written(text);
            int count = text.length();
            Check.same("the last byte of " + text, (int) text.charAt(count - 1), x.writtenAt(count - 1));
            for (int i = count; i <= 64; i++) {
                Check.same("writtenAt(" + i + ") of " + text, AddressTexts.NONE, x.writtenAt(i));
            }
        }
    }

    private static void noneOfALongerTextBefore() {
        Check.sentence("NONE when there is none: a longer text was written before");
        AddressTexts x = written(State.ALL_6);
        Check.read(x, "::1");
        Check.same("write()", 3, x.write());
        Check.same("writtenAt(2)", (int) '1', x.writtenAt(2));
        for (int i = 3; i <= 40; i++) {
            Check.same("writtenAt(" + i + ")", AddressTexts.NONE, x.writtenAt(i));
        }
    }

    private static void onlyAWriteWrites() {
        Check.sentence("what was written");
        AddressTexts x = written("1.2.3.4");
        Check.read(x, "::1");
        Check.same("after a read", "1.2.3.4", Check.written(x));
        Check.read(x, "none");
        Check.same("after a read of none", "1.2.3.4", Check.written(x));
        Check.length(x, "0");
        x.cut();
        Check.same("after a cut", "1.2.3.4", Check.written(x));
        x.turn();
        Check.same("after a turn", "1.2.3.4", Check.written(x));
        x.feed(0, 0, 0, 0, 0);
        x.end(0);
        Check.same("after a feed and an end", "1.2.3.4", Check.written(x));
    }

    private static void changesNothing() {
        Check.sentence("Byte i of what was written: no more than asked");
        AddressTexts x = State.sample("7.8.9.10");
        for (int i : FAR) {
            x.writtenAt(i);
        }
        Check.same("state after writtenAt", State.ofSample(8, "7.8.9.10"), State.of(x, 8));
    }
}
