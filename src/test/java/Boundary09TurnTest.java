/** Promise 9, sentence by sentence. */
public final class Boundary09TurnTest {
    public static void main(String[] args) {
        changePlaces();
        twiceIsNone();
        theSameInBothPlaces();
        readBehindATurn();
        Check.finish();
    }

    /** With their lengths; the tape and what was written stay. */
    private static void changePlaces() {
        Check.sentence("ONE and TWO change places");
        AddressTexts x = State.sample("7.8.9.10");
        x.turn();
        String due = "tape 8, written 1.2.3.4, ONE " + State.ALL_6 + "/17, TWO " + State.ALL_4 + "/9, tape reads 7.8.9.10";
        Check.same("state after a turn", due, State.of(x, 8));
        AddressTexts full = State.sample("0".repeat(60));
        full.turn();
        Check.same("the tape's bytes", 60, State.tapeCount(full));
    }

    private static void twiceIsNone() {
        Check.sentence("ONE and TWO change places: twice");
        AddressTexts x = State.sample("7.8.9.10");
        x.turn();
        x.turn();
        Check.same("state after two turns", State.ofSample(8, "7.8.9.10"), State.of(x, 8));
    }

    /** One that changes then must leave the other alone. */
    private static void theSameInBothPlaces() {
        Check.sentence("ONE and TWO change places: both the same");
        AddressTexts x = new AddressTexts();
        x.turn();
        Check.same("order() of a new object, turned", 0, x.order());
        Check.same("length of 5", 5, Check.length(x, "5"));
        Check.same("order() with another length", -1, x.order());
        x.turn();
        Check.same("order(), turned again", 1, x.order());
        AddressTexts y = Check.pair("1.2.3.4/8", "1.2.3.4/8");
        y.turn();
        Check.same("cut()", true, y.cut());
        y.turn();
        Check.same("the other is not cut", "1.2.3.4", Check.write(y));
    }

    private static void readBehindATurn() {
        Check.sentence("ONE and TWO change places: then a read");
        AddressTexts x = Check.pair("1.1.1.1/8", "2::2/8");
        x.turn();
        Check.same("read", 4, Check.read(x, "3.3.3.3"));
        Check.same("ONE", "3.3.3.3", Check.write(x));
        x.turn();
        Check.same("TWO", "2::2", Check.write(x));
        x.turn();
        Check.same("ONE again", "3.3.3.3", Check.write(x));
    }
}
