/** Promise 3, sentence by sentence. */
public final class Boundary03EndTest {
    private static final int[] BELOW = {-1, -2, -20, -60, -256, Integer.MIN_VALUE, Integer.MIN_VALUE + 1};

    public static void main(String[] args) {
        onlyTheFirstBytesCount();
        noneCount();
        allCount();
        whatIsBehindDoesNotComeBack();
        refusesMoreThanItHas();
        refusesBelowZero();
        aRefusedEndChangesNothing();
        Check.finish();
    }

    /** Each end within a text leaves another length, or none. */
    private static void onlyTheFirstBytesCount() {
        Check.sentence("Of the tape only the first n bytes count");
        int[] due = {AddressTexts.NONE, 1, 12, 128, AddressTexts.NONE, AddressTexts.NONE};
        for (int n = 0; n < due.length; n++) {
            AddressTexts x = new AddressTexts();
            Check.read(x, "::");
            Check.tape(x, "12845");
            Check.same("end(" + n + ")", true, x.end(n));
            Check.same("length() of the first " + n + " of 12845", due[n], x.length());
        }
        AddressTexts x = State.sample("7.8.9.101");
        Check.same("end(8)", true, x.end(8));
        Check.same("state after an end", State.ofSample(8, "7.8.9.10"), State.of(x, 8));
    }

    private static void noneCount() {
        Check.sentence("Of the tape only the first n bytes count: n is 0");
        String[] tapes = {"", "1", "1.2.3.4", "0".repeat(60)};
        for (String tape : tapes) {
            AddressTexts x = State.sample(tape);
            Check.same("end(0) of " + tape.length(), true, x.end(0));
            Check.same("state after end(0)", State.ofSample(0, "NONE"), State.of(x, 0));
        }
    }

    private static void allCount() {
        Check.sentence("Of the tape only the first n bytes count: n is all it has");
        for (int n = 0; n <= 60; n++) {
            AddressTexts x = new AddressTexts();
            Check.tape(x, "0".repeat(n));
            Check.same("end(" + n + ") of " + n, true, x.end(n));
            Check.same("the tape's bytes", n, State.tapeCount(x));
        }
    }

    private static void whatIsBehindDoesNotComeBack() {
        Check.sentence("only the first n bytes count");
        for (int n = 0; n < 20; n++) {
            AddressTexts x = new AddressTexts();
            x.feed(0x31313131, 0x31313131, 0x31313131, 0x31313131, 0x31313131);
            Check.same("end(" + n + ")", true, x.end(n));
            Check.same("end(" + (n + 1) + ") behind end(" + n + ")", false, x.end(n + 1));
            Check.same("end(20) behind end(" + n + ")", false, x.end(20));
            Check.same("the tape's bytes", n, State.tapeCount(x));
        }
    }

    private static void refusesMoreThanItHas() {
        Check.sentence("false .. when it has not so many");
        for (int has = 0; has <= 60; has++) {
            AddressTexts x = new AddressTexts();
            Check.tape(x, "0".repeat(has));
            Check.same("end(" + (has + 1) + ") of " + has, false, x.end(has + 1));
            Check.same("end(61) of " + has, false, x.end(61));
            Check.same("end(has + 256) of " + has, false, x.end(has + 256));
            Check.same("end(most) of " + has, false, x.end(Integer.MAX_VALUE));
        }
    }

    private static void refusesBelowZero() {
        Check.sentence("false .. or n is below 0");
        for (int n : BELOW) {
            Check.same("end(" + n + ") of an empty tape", false, new AddressTexts().end(n));
            Check.same("end(" + n + ") of some bytes", false, State.sample("7.8.9.10").end(n));
            Check.same("end(" + n + ") of a full tape", false, State.sample("0".repeat(60)).end(n));
        }
    }

    private static void aRefusedEndChangesNothing() {
        Check.sentence("changing nothing");
        for (int n : BELOW) {
            staysAsItIs(n);
        }
        staysAsItIs(9);
        staysAsItIs(20);
        staysAsItIs(61);
        staysAsItIs(Integer.MAX_VALUE);
    }

    private static void staysAsItIs(int refused) {
        AddressTexts x = State.sample("7.8.9.10");
        Check.same("end(" + refused + ")", false, x.end(refused));
        Check.same("state after end(" + refused + ")", State.ofSample(8, "7.8.9.10"), State.of(x, 8));
        AddressTexts empty = State.sample("");
        Check.same("end(" + refused + ") of an empty tape", false, empty.end(refused));
        Check.same("state after end(" + refused + ") of an empty tape", State.ofSample(0, "NONE"), State.of(empty, 0));
    }
}
