/** The example of README.md with the answers that it tells, and what it says where the document leaves room. */
public final class ReadmeTest {
    public static void main(String[] args) {
        example();
        tapeIsEmptyWhateverTheAnswer();
        endDropsBytes();
        writeHasNoLength();
        sixHasNoDottedNumbers();
        orderTakesAllBits();
        Check.finish();
    }

    private static void example() {
        AddressTexts x = new AddressTexts();
        Check.same("feed of 10.1.2.3", true, x.feed(0x31302E31, 0x2E322E33, 0, 0, 0));
        Check.same("end(8)", true, x.end(8));
        Check.same("read() of 10.1.2.3", 4, x.read());
        Check.same("feed of 10.1.0.0", true, x.feed(0x31302E31, 0x2E302E30, 0, 0, 0));
        Check.same("end(8)", true, x.end(8));
        Check.same("read() of 10.1.0.0", 4, x.read());
        Check.same("feed of 8", true, x.feed(0x38000000, 0, 0, 0, 0));
        Check.same("end(1)", true, x.end(1));
        Check.same("length() of 8", 8, x.length());
        Check.same("cut()", true, x.cut());
        Check.same("covers()", true, x.covers());
        Check.same("order()", -1, x.order());
        Check.same("write()", 8, x.write());
        Check.same("what was written", "10.0.0.0", Check.written(x));
        x.turn();
        Check.same("TWO", "10.1.2.3", Check.write(x));
    }

    private static void tapeIsEmptyWhateverTheAnswer() {
        String[] texts = {"::1", "1.2.3.4", "16", "no", ""};
        for (String text : texts) {
            AddressTexts x = new AddressTexts();
            Check.read(x, text);
            Check.same("end(1) behind read() of " + text, false, x.end(1));
            Check.length(x, text);
            Check.same("end(1) behind length() of " + text, false, x.end(1));
        }
        AddressTexts x = Check.pair("10.1.2.3/16", "0.0.0.0/0");
        Check.same("length() of 33", AddressTexts.NONE, Check.length(x, "33"));
        x.cut();
        Check.same("ONE cut at the length that it had", "10.1.0.0", Check.write(x));
    }

    private static void endDropsBytes() {
        AddressTexts x = new AddressTexts();
        Check.tape(x, "1.2.");
        Check.same("end(2)", true, x.end(2));
        Check.same("end(4) behind end(2)", false, x.end(4));
        Check.same("feed of 3.4.5", true, x.feed(0x332E342E, 0x35000000, 0, 0, 0));
        Check.same("end(7)", true, x.end(7));
        Check.same("read() of 1.3.4.5", 4, x.read());
        Check.same("ONE", "1.3.4.5", Check.write(x));
    }

    private static void writeHasNoLength() {
        Check.same("write()", "10.1.2.3", Check.write(Check.pair("10.1.2.3/8", "::/0")));
        Check.same("write()", "1::2", Check.write(Check.pair("1::2/8", "::/0")));
    }

    private static void sixHasNoDottedNumbers() {
        String[] texts = {"::1.2.3.4", "1:2:3:4:5:6:1.2.3.4", "::ffff:0.0.0.0"};
        for (String text : texts) {
            Check.same("read() of " + text, AddressTexts.NONE, Check.read(new AddressTexts(), text));
        }
    }

    private static void orderTakesAllBits() {
        Check.same("order()", 1, Check.pair("10.1.2.3/8", "10.1.2.2/8").order());
        Check.same("order()", -1, Check.pair("1::2/16", "1::3/16").order());
    }
}
