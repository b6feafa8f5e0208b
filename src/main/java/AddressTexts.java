/** Addresses of two families as texts: read strictly, written in the one right form. */
public final class AddressTexts {
    public static final int NONE = -1;

    private static final int FAMILY_4 = 4;
    private static final int FAMILY_6 = 6;
    private static final int BITS_4 = 32;
    private static final int BITS_6 = 128;
    private static final int HALF_BITS = 64;

    private static final int NUMBERS = 4;
    private static final int NUMBER_MOST = 255;
    private static final int PARTS = 8;
    private static final int PART_DIGITS_MOST = 4;
    private static final int ROW_LEAST = 2;

    private static final int TAPE_MOST = 60;
    private static final int FEED_BYTES = 20;
    /** Eight parts of four digits with seven marks between: no right form is longer. */
    private static final int WRITTEN_MOST = 39;

    private final byte[] tape;
    private int tapeCount;
    private final byte[] written;
    private int writtenCount;

    private Address one;
    private Address two;
    /** A text is read into this one, so that a text that turns out wrong leaves ONE and TWO alone. */
    private Address spare;

    public AddressTexts() {
        tape = new byte[TAPE_MOST];
        tapeCount = 0;
        written = new byte[WRITTEN_MOST];
        writtenCount = 0;
        one = new Address();
        two = new Address();
        spare = new Address();
    }

    public boolean feed(int a, int b, int c, int d, int e) {
        if (tapeCount + FEED_BYTES > TAPE_MOST) {
            return false;
        }
        tapeNumber(a);
        tapeNumber(b);
        tapeNumber(c);
        tapeNumber(d);
        tapeNumber(e);
        return true;
    }

    public boolean end(int n) {
        if (n < 0 || n > tapeCount) {
            return false;
        }
        tapeCount = n;
        return true;
    }

    public int read() {
        boolean isText = readText();
        tapeCount = 0;
        if (!isText) {
            return NONE;
        }
        Address free = two;
        two = one;
        one = spare;
        spare = free;
        return one.family;
    }

    public int length() {
        int number = decimalIn(0, tapeCount, one.wholeLength());
        tapeCount = 0;
        if (number != NONE) {
            one.prefixLength = number;
        }
        return number;
    }

    public boolean cut() {
        long upper = one.upper & one.upperMask();
        long lower = one.lower & one.lowerMask();
        boolean changes = upper != one.upper || lower != one.lower;
        one.upper = upper;
        one.lower = lower;
        return changes;
    }

    public boolean covers() {
        return one.family == two.family
            && one.prefixLength <= two.prefixLength
            && ((one.upper ^ two.upper) & one.upperMask()) == 0
            && ((one.lower ^ two.lower) & one.lowerMask()) == 0;
    }

    public int order() {
        if (one.family != two.family) {
            return one.family == FAMILY_4 ? -1 : 1;
        }
        if (one.upper != two.upper) {
            return isBelow(one.upper, two.upper) ? -1 : 1;
        }
        if (one.lower != two.lower) {
            return isBelow(one.lower, two.lower) ? -1 : 1;
        }
        if (one.prefixLength != two.prefixLength) {
            return one.prefixLength < two.prefixLength ? -1 : 1;
        }
        return 0;
    }

    public void turn() {
        Address first = one;
        one = two;
        two = first;
    }

    public int write() {
        writtenCount = 0;
        if (one.family == FAMILY_4) {
            writeNumbers();
        } else {
            writeParts();
        }
        return writtenCount;
    }

    public int writtenAt(int i) {
        return i >= 0 && i < writtenCount ? written[i] & 255 : NONE;
    }

    public long bits(int half) {
        if (half == 0) {
            return one.upper;
        }
        return half == 1 ? one.lower : 0;
    }

    // ---- the tape

    private void tapeNumber(int number) {
        for (int shift = 24; shift >= 0; shift -= 8) {
            tapeByte(number >>> shift);
        }
    }

    private void tapeByte(int value) {
        if (tapeCount < tape.length) {
            tape[tapeCount] = (byte) value;
            tapeCount++;
        }
    }

    private int tapeAt(int i) {
        return i >= 0 && i < tapeCount ? tape[i] & 255 : NONE;
    }

    /** The first place of the mark at or behind a place; where the tape ends when there is none. */
    private int placeOf(char mark, int from) {
        for (int i = from; i < tapeCount; i++) {
            if (tapeAt(i) == mark) {
                return i;
            }
        }
        return tapeCount;
    }

    /** The first place of :: on the tape; where the tape ends when there is none. */
    private int placeOfGap() {
        for (int i = 0; i < tapeCount; i++) {
            if (tapeAt(i) == ':' && tapeAt(i + 1) == ':') {
                return i;
            }
        }
        return tapeCount;
    }

    // ---- reading, always into the spare address

    private boolean readText() {
        return placeOf(':', 0) < tapeCount ? readSix() : readFour();
    }

    private boolean readFour() {
        spare.clear(FAMILY_4);
        int at = 0;
        for (int k = 0; k < NUMBERS; k++) {
            int stop = placeOf('.', at);
            int number = decimalIn(at, stop, NUMBER_MOST);
            if (number == NONE) {
                return false;
            }
            spare.lower = spare.lower << 8 | number;
            at = stop + 1;
        }
        // Only when the last number ended with the tape is the next place one behind the tape's end.
        return at == tapeCount + 1;
    }

    /** Without :: all parts stand ahead of the tape's end, and none behind it: both kinds go one way. */
    private boolean readSix() {
        spare.clear(FAMILY_6);
        int gap = placeOfGap();
        int ahead = partsIn(0, gap);
        int behind = partsIn(gap + 2, tapeCount);
        boolean fits = gap < tapeCount ? ahead + behind < PARTS : ahead == PARTS;
        return fits
            && readParts(0, gap, 0)
            && readParts(gap + 2, tapeCount, PARTS - behind);
    }

    /** How many parts the marks between two places make; none when there is nothing between them. */
    private int partsIn(int from, int to) {
        if (from >= to) {
            return 0;
        }
        int count = 1;
        for (int i = from; i < to; i++) {
            if (tapeAt(i) == ':') {
                count++;
            }
        }
        return count;
    }

    /** Reads the parts between two places as the address's parts from the first one on. */
    private boolean readParts(int from, int to, int first) {
        int count = partsIn(from, to);
        int at = from;
        for (int k = 0; k < count; k++) {
            int stop = Math.min(placeOf(':', at), to);
            int part = hexadecimalIn(at, stop);
            if (part == NONE) {
                return false;
            }
            spare.setPart(first + k, part);
            at = stop + 1;
        }
        return true;
    }

    /** The decimal number without 0s ahead that fills the tape between two places, or NONE. */
    private int decimalIn(int from, int to, int most) {
        boolean hasZeroAhead = tapeAt(from) == '0' && to - from > 1;
        if (from >= to || hasZeroAhead) {
            return NONE;
        }
        int number = 0;
        for (int i = from; i < to; i++) {
            int digit = digitAt(i);
            if (digit == NONE || digit > 9) {
                return NONE;
            }
            number = number * 10 + digit;
            // Left at once, since a long row of digits would wrap around to a small number.
            if (number > most) {
                return NONE;
            }
        }
        return number;
    }

    /** The one to four hexadecimal digits that fill the tape between two places, or NONE. */
    private int hexadecimalIn(int from, int to) {
        if (from >= to || to - from > PART_DIGITS_MOST) {
            return NONE;
        }
        int number = 0;
        for (int i = from; i < to; i++) {
            int digit = digitAt(i);
            if (digit == NONE) {
                return NONE;
            }
            number = number << 4 | digit;
        }
        return number;
    }

    private int digitAt(int i) {
        int character = tapeAt(i);
        if (character >= '0' && character <= '9') {
            return character - '0';
        }
        if (character >= 'a' && character <= 'f') {
            return character - 'a' + 10;
        }
        if (character >= 'A' && character <= 'F') {
            return character - 'A' + 10;
        }
        return NONE;
    }

    // ---- writing

    private void writeNumbers() {
        for (int k = 0; k < NUMBERS; k++) {
            if (k > 0) {
                writeByte('.');
            }
            writeDecimal((int) (one.lower >>> (24 - 8 * k)) & 255);
        }
    }

    private void writeParts() {
        int rowStart = one.longestRowOfZeros();
        int rowEnd = rowStart + one.zerosFrom(rowStart);
        for (int k = 0; k < PARTS; k++) {
            if (k == rowStart) {
                writeByte(':');
                writeByte(':');
            }
            if (k < rowStart || k >= rowEnd) {
                // Behind the row the mark between is there already.
                if (k > 0 && k != rowEnd) {
                    writeByte(':');
                }
                writeHexadecimal(one.part(k));
            }
        }
    }

    /** Numbers of at most three digits. */
    private void writeDecimal(int number) {
        if (number >= 100) {
            writeDigit(number / 100);
        }
        if (number >= 10) {
            writeDigit(number / 10 % 10);
        }
        writeDigit(number % 10);
    }

    /** Numbers of at most four digits. */
    private void writeHexadecimal(int number) {
        for (int shift = 12; shift >= 0; shift -= 4) {
            if (shift == 0 || number >>> shift != 0) {
                writeDigit(number >>> shift & 15);
            }
        }
    }

    private void writeDigit(int digit) {
        writeByte(digit < 10 ? '0' + digit : 'a' + digit - 10);
    }

    private void writeByte(int value) {
        if (writtenCount < written.length) {
            written[writtenCount] = (byte) value;
            writtenCount++;
        }
    }

    private static boolean isBelow(long a, long b) {
        // Turning the highest bit makes the order with sign the one without.
        return (a ^ 1L << 63) < (b ^ 1L << 63);
    }

    /** An address with a length; one of family 4 lies in the lowest 32 of the 128 bits. */
    private static final class Address {
        int family;
        int prefixLength;
        long upper;
        long lower;

        Address() {
            family = FAMILY_4;
            prefixLength = BITS_4;
            upper = 0;
            lower = 0;
        }

        /** All bits 0, with the family's whole length. */
        void clear(int newFamily) {
            family = newFamily;
            prefixLength = wholeLength();
            upper = 0;
            lower = 0;
        }

        int wholeLength() {
            return family == FAMILY_4 ? BITS_4 : BITS_6;
        }

        long upperMask() {
            return highestBits(keptOfAll());
        }

        long lowerMask() {
            return highestBits(keptOfAll() - HALF_BITS);
        }

        /** How many of the 128 bits stand ahead of the length's end. */
        private int keptOfAll() {
            return BITS_6 - wholeLength() + prefixLength;
        }

        private static long highestBits(int count) {
            if (count <= 0) {
                return 0;
            }
            return count >= HALF_BITS ? -1L : -1L << (HALF_BITS - count);
        }

        int part(int k) {
            long half = k < PARTS / 2 ? upper : lower;
            return (int) (half >>> shiftOf(k)) & 0xffff;
        }

        /** Sets a part that was 0 till now. */
        void setPart(int k, int value) {
            long placed = (long) value << shiftOf(k);
            if (k < PARTS / 2) {
                upper |= placed;
            } else {
                lower |= placed;
            }
        }

        private static int shiftOf(int k) {
            return 48 - 16 * (k & 3);
        }

        /** How many parts in a row are 0 from this one on. */
        int zerosFrom(int first) {
            int k = first;
            while (k < PARTS && part(k) == 0) {
                k++;
            }
            return k - first;
        }

        /** Where the row stands that is written as ::, or PARTS when there is none. */
        int longestRowOfZeros() {
            int start = PARTS;
            int longest = ROW_LEAST - 1;
            for (int k = 0; k < PARTS; k++) {
                int zeros = zerosFrom(k);
                if (zeros > longest) {
                    start = k;
                    longest = zeros;
                }
            }
            return start;
        }
    }
}
