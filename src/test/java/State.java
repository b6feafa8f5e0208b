/** All that can be seen of an object at once, for the sentences that say that a call changes nothing. */
final class State {
    static final String ALL_4 = "255.255.255.255";
    static final String ALL_6 = "ffff:ffff:ffff:ffff:ffff:ffff:ffff:ffff";

    private State() {
    }

    /** An object with something in every place; all bits are set, so that cut() can tell each length. */
    static AddressTexts sample(String tape) {
        AddressTexts x = new AddressTexts();
        Check.read(x, "1.2.3.4");
        x.write();
        Check.prefix(x, ALL_6 + "/17");
        Check.prefix(x, ALL_4 + "/9");
        Check.tape(x, tape);
        return x;
    }

    /** What of() tells of a sample, its tape having this many bytes, whose first ones read so. */
    static String ofSample(int tapeCount, String reading) {
        return "tape " + tapeCount + ", written 1.2.3.4, ONE " + ALL_4 + "/9, TWO " + ALL_6 + "/17, tape reads " + reading;
    }

    /** Of the tape's bytes only so many of the first ones are read; the object is used up by this. */
    static String of(AddressTexts x, int first) {
        StringBuilder state = new StringBuilder();
        state.append("tape ").append(tapeCount(x));
        state.append(", written ").append(Check.written(x));
        state.append(", ONE ").append(one(x));
        x.turn();
        state.append(", TWO ").append(one(x));
        x.end(first);
        state.append(", tape reads ").append(x.read() == AddressTexts.NONE ? "NONE" : Check.write(x));
        return state.toString();
    }

    /** An end at the tape's own count changes nothing, and no end beyond it is taken. */
    static int tapeCount(AddressTexts x) {
        for (int n = 61; n >= 0; n--) {
            if (x.end(n)) {
                return n;
            }
        }
        return AddressTexts.NONE;
    }

    private static String one(AddressTexts x) {
        String address = Check.write(x);
        x.cut();
        return address + "/" + (Long.bitCount(x.bits(0)) + Long.bitCount(x.bits(1)));
    }
}
