/** Promise 4, sentence by sentence; the texts themselves are the matter of Boundary04TextFourTest and Boundary04TextSixTest. */
public final class Boundary04ReadTest {
    private static final String[] NONE_TEXTS = {
        "", "0", "1.2.3", "1.2.3.4.5", "256.1.1.1", "01.1.1.1", ":", "1:2:3:4:5:6:7", "1:2:3:4:5:6:7:8:9", "1::2::3", "12345::",
        "::g", "1.2.3.4:", "::1.2.3.4", "1.2.3.4" + "\0".repeat(53), "::" + "0".repeat(58), ":".repeat(60),
    };

    public static void main(String[] args) {
        theTapeIsEmptyThen();
        theTapeIsEmptyAlsoWhenItWasNone();
        twoBecomesWhatOneWas();
        oneHasItsWholeLength();
        answersTheFamily();
        noneOnAnEmptyTape();
        noneChangesNothingElse();
        Check.finish();
    }

    private static void theTapeIsEmptyThen() {
        Check.sentence("The tape (empty then) is a text");
        String[] texts = {"0.0.0.0", "::", State.ALL_4, State.ALL_6};
        for (String text : texts) {
            AddressTexts x = State.sample(text);
            Check.same("read() of " + text, text.indexOf(':') < 0 ? 4 : 6, x.read());
            Check.same("the tape's bytes", 0, State.tapeCount(x));
            Check.same("read() again", AddressTexts.NONE, x.read());
            feedsThrice(x);
        }
    }

    private static void theTapeIsEmptyAlsoWhenItWasNone() {
        Check.sentence("The tape (empty then): NONE, changing nothing else");
        for (String text : NONE_TEXTS) {
            AddressTexts x = State.sample(text);
            Check.same("read() of '" + text + "'", AddressTexts.NONE, x.read());
            Check.same("the tape's bytes after '" + text + "'", 0, State.tapeCount(x));
            feedsThrice(x);
        }
    }

    private static void feedsThrice(AddressTexts x) {
        for (int count = 20; count <= 60; count += 20) {
            Check.same("feed to " + count, true, x.feed(0, 0, 0, 0, 0));
        }
        Check.same("feed to 80", false, x.feed(0, 0, 0, 0, 0));
    }

    private static void twoBecomesWhatOneWas() {
        Check.sentence("TWO becomes what ONE was");
        AddressTexts x = State.sample(State.ALL_6);
        Check.same("read()", 6, x.read());
        String due = "tape 0, written 1.2.3.4, ONE " + State.ALL_6 + "/128, TWO " + State.ALL_4 + "/9, tape reads NONE";
        Check.same("state after a read", due, State.of(x, 0));
        AddressTexts y = State.sample(State.ALL_4);
        y.turn();
        Check.same("read()", 4, y.read());
        String turned = "tape 0, written 1.2.3.4, ONE " + State.ALL_4 + "/32, TWO " + State.ALL_6 + "/17, tape reads NONE";
        Check.same("state after a read, turned", turned, State.of(y, 0));
        AddressTexts z = State.sample(State.ALL_4);
        z.cut();
        z.read();
        z.turn();
        Check.same("TWO is what was cut", "255.128.0.0", Check.write(z));
    }

    /** The length was 0 before, of each family ahead of each. */
    private static void oneHasItsWholeLength() {
        Check.sentence("ONE this address with its whole length");
        String[] texts = {State.ALL_4, State.ALL_6};
        for (String before : texts) {
            for (String text : texts) {
                AddressTexts x = Check.pair(before + "/0", before + "/0");
                Check.tape(x, text);
                x.read();
                Check.same("cut() of " + text + " behind " + before, false, x.cut());
                Check.same("written", text, Check.write(x));
                int whole = text.equals(State.ALL_4) ? 32 : 128;
                Check.same("the whole length", whole, Check.length(x, String.valueOf(whole)));
                Check.same("one beyond it", AddressTexts.NONE, Check.length(x, String.valueOf(whole + 1)));
            }
        }
        AddressTexts same = Check.pair("::/127", "::/128");
        Check.same("read", 6, Check.read(same, "::"));
        Check.same("order() of 128 and 127", 1, same.order());
    }

    private static void answersTheFamily() {
        Check.sentence("its family");
        AddressTexts x = new AddressTexts();
        Check.same("read of 0.0.0.0", 4, Check.read(x, "0.0.0.0"));
        Check.same("read of ::", 6, Check.read(x, "::"));
        Check.same("read of " + State.ALL_4, 4, Check.read(x, State.ALL_4));
        Check.same("read of " + State.ALL_6, 6, Check.read(x, State.ALL_6));
    }

    private static void noneOnAnEmptyTape() {
        Check.sentence("NONE .. when it is none: the tape is empty");
        AddressTexts x = State.sample("");
        for (int i = 0; i < 3; i++) {
            Check.same("read()", AddressTexts.NONE, x.read());
        }
        Check.same("state", State.ofSample(0, "NONE"), State.of(x, 0));
    }

    private static void noneChangesNothingElse() {
        Check.sentence("NONE, changing nothing else, when it is none");
        for (String text : NONE_TEXTS) {
            AddressTexts x = State.sample(text);
            Check.same("read() of '" + text + "'", AddressTexts.NONE, x.read());
            Check.same("state after '" + text + "'", State.ofSample(0, "NONE"), State.of(x, 0));
        }
        AddressTexts x = State.sample("1::2::3");
        x.read();
        Check.same("read of a right text after a wrong one", 6, Check.read(x, "::4"));
        Check.one("after a wrong text", x, "::4", 0L, 4L);
        x.turn();
        Check.same("TWO", State.ALL_4, Check.write(x));
    }
}
