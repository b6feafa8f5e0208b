import java.math.BigInteger;
import java.nio.charset.StandardCharsets;
import java.util.Random;

/** Long runs of mixed calls, each answer held against a plain model; the seed is fixed, so runs are always the same. */
public final class ModelTest {
    private static final int OBJECTS = 20000;
    private static final int CALLS_PROMISED = 512;
    /** A text is put by 5 calls and read by one; what is written is asked by at most 41. */
    private static final int CALLS_OF_A_STEP = 42;

    private static final class Prefix {
        final int family;
        final BigInteger address;
        final int length;

        Prefix(int family, BigInteger address, int length) {
            this.family = family;
            this.address = address;
            this.length = length;
        }

        int width() {
            return family == 4 ? 32 : 128;
        }

        BigInteger first(int count) {
            return address.shiftRight(width() - count);
        }
    }

    private final Random random;
    private final AddressTexts x = new AddressTexts();
    private Prefix one = new Prefix(4, BigInteger.ZERO, 32);
    private Prefix two = one;
    private String tape = "";
    private String written = "";
    private int calls = 0;

    private ModelTest(Random random) {
        this.random = random;
    }

    public static void main(String[] args) {
        for (int i = 0; i < OBJECTS; i++) {
            ModelTest test = new ModelTest(new Random(i));
            while (test.calls + CALLS_OF_A_STEP <= CALLS_PROMISED) {
                test.step();
            }
        }
        Check.finish();
    }

    private void step() {
        calls++;
        switch (random.nextInt(14)) {
            case 0: feed(randomBytes()); break;
            case 1: end(random.nextInt(70) - 5); break;
            case 2: case 3: case 4: text(); read(); break;
            case 5: case 6: lengthText(); length(); break;
            case 7: cut(); break;
            case 8: Check.same("covers()", covers(), x.covers()); break;
            case 9: Check.same("order()", order(), x.order()); break;
            case 10: turn(); break;
            case 11: write(); break;
            case 12: writtenAt(random.nextInt(45) - 3); break;
            default: bits(random.nextInt(4) - 1); break;
        }
    }

    private String randomBytes() {
        String marks = "0123456789abcdefABCDEF:.:.::..\0\u00ff/g ";
        StringBuilder text = new StringBuilder();
        for (int i = 0; i < 20; i++) {
            text.append(marks.charAt(random.nextInt(marks.length())));
        }
        return text.toString();
    }

    private void feed(String bytes) {
        calls++;
        boolean fits = tape.length() + 20 <= 60;
        Check.same("feed", fits, Check.feed(x, bytes.getBytes(StandardCharsets.ISO_8859_1), 0));
        if (fits) {
            tape += bytes;
        }
    }

    private void end(int n) {
        calls++;
        boolean has = n >= 0 && n <= tape.length();
        Check.same("end(" + n + ")", has, x.end(n));
        if (has) {
            tape = tape.substring(0, n);
        }
    }

    private void put(String text) {
        end(0);
        StringBuilder padded = new StringBuilder(text);
        padded.setLength((text.length() + 19) / 20 * 20);
        for (int from = 0; from < padded.length(); from += 20) {
            feed(padded.substring(from, from + 20));
        }
        end(text.length());
    }

    private void text() {
        int kind = random.nextInt(10);
        if (kind == 0) {
            return;
        }
        String text = kind < 4 ? fourText() : sixText();
        put(random.nextInt(4) == 0 ? spoilt(text) : text);
    }

    private String fourText() {
        StringBuilder text = new StringBuilder();
        for (int i = 0; i < 4; i++) {
            int number = random.nextInt(3) == 0 ? random.nextInt(3) * 127 : random.nextInt(262);
            text.append(i == 0 ? "" : ".").append(number);
        }
        return text.toString();
    }

    private String sixText() {
        int count = random.nextInt(5) == 0 ? 1 + random.nextInt(9) : 8;
        StringBuilder text = new StringBuilder();
        for (int i = 0; i < count; i++) {
            int value = random.nextBoolean() ? 0 : random.nextInt(1 << 4 * (1 + random.nextInt(4)));
            String digits = String.format(random.nextInt(4) == 0 ? "%04x" : "%x", value);
            text.append(i == 0 ? "" : ":").append(random.nextBoolean() ? digits : digits.toUpperCase());
        }
        String whole = text.toString();
        return random.nextBoolean() ? whole : withGap(whole);
    }

    /** Puts :: for some row of parts, whatever they are. */
    private String withGap(String text) {
        String[] parts = text.split(":");
        int from = random.nextInt(parts.length + 1);
        int to = from + random.nextInt(parts.length + 1 - from);
        StringBuilder made = new StringBuilder();
        for (int i = 0; i < from; i++) {
            made.append(i == 0 ? "" : ":").append(parts[i]);
        }
        made.append("::");
        for (int i = to; i < parts.length; i++) {
            made.append(i == to ? "" : ":").append(parts[i]);
        }
        return made.toString();
    }

    private String spoilt(String text) {
        StringBuilder made = new StringBuilder(text);
        int at = random.nextInt(text.length());
        char mark = randomBytes().charAt(0);
        switch (random.nextInt(3)) {
            case 0: made.deleteCharAt(at); break;
            case 1: made.insert(at, mark); break;
            default: made.setCharAt(at, mark); break;
        }
        return made.toString();
    }

    private void lengthText() {
        int kind = random.nextInt(8);
        if (kind == 0) {
            return;
        }
        String text = String.valueOf(random.nextInt(kind < 4 ? 35 : 135));
        put(kind == 1 ? spoilt(text) : text);
    }

    private void read() {
        BigInteger address = tape.indexOf(':') < 0 ? four(tape) : six(tape);
        int family = address == null ? AddressTexts.NONE : tape.indexOf(':') < 0 ? 4 : 6;
        Check.same("read() of " + tape, family, x.read());
        tape = "";
        if (address != null) {
            two = one;
            one = new Prefix(family, address, family == 4 ? 32 : 128);
        }
    }

    private static BigInteger four(String text) {
        String number = "(0|[1-9][0-9]{0,2})";
        if (!text.matches(number + "(\\." + number + "){3}")) {
            return null;
        }
        BigInteger address = BigInteger.ZERO;
        for (String part : text.split("\\.")) {
            if (Integer.parseInt(part) > 255) {
                return null;
            }
            address = address.shiftLeft(8).add(new BigInteger(part));
        }
        return address;
    }

    /** Tries :: as each count of parts 0 in turn, till the text has eight parts in full. */
    private static BigInteger six(String text) {
        int gap = text.indexOf("::");
        for (int count = gap < 0 ? 8 : 1; count <= 8; count++) {
            String full = text;
            if (gap >= 0) {
                String zeros = "0:".repeat(count).substring(0, 2 * count - 1);
                String ahead = gap == 0 ? "" : text.substring(0, gap) + ":";
                String behind = gap + 2 == text.length() ? "" : ":" + text.substring(gap + 2);
                full = ahead + zeros + behind;
            }
            if (full.matches("[0-9a-fA-F]{1,4}(:[0-9a-fA-F]{1,4}){7}")) {
                BigInteger address = BigInteger.ZERO;
                for (String part : full.split(":")) {
                    address = address.shiftLeft(16).add(new BigInteger(part, 16));
                }
                return address;
            }
        }
        return null;
    }

    private void length() {
        boolean isNumber = tape.matches("0|[1-9][0-9]{0,2}") && Integer.parseInt(tape) <= one.width();
        int due = isNumber ? Integer.parseInt(tape) : AddressTexts.NONE;
        Check.same("length() of " + tape, due, x.length());
        tape = "";
        if (isNumber) {
            one = new Prefix(one.family, one.address, due);
        }
    }

    private void cut() {
        int behind = one.width() - one.length;
        BigInteger left = one.address.shiftRight(behind).shiftLeft(behind);
        Check.same("cut()", !left.equals(one.address), x.cut());
        one = new Prefix(one.family, left, one.length);
    }

    private boolean covers() {
        return one.family == two.family && one.length <= two.length && one.first(one.length).equals(two.first(one.length));
    }

    private int order() {
        if (one.family != two.family) {
            return one.family < two.family ? -1 : 1;
        }
        int byAddress = one.address.compareTo(two.address);
        return byAddress != 0 ? byAddress : Integer.compare(one.length, two.length);
    }

    private void turn() {
        x.turn();
        Prefix first = one;
        one = two;
        two = first;
    }

    private void write() {
        written = one.family == 4 ? fourWritten() : sixWritten();
        Check.same("write() of " + written, written.length(), x.write());
        Check.same("written", written, Check.written(x));
        calls += written.length() + 1;
    }

    private String fourWritten() {
        long bits = one.address.longValue();
        return (bits >> 24) + "." + (bits >> 16 & 255) + "." + (bits >> 8 & 255) + "." + (bits & 255);
    }

    private String sixWritten() {
        StringBuilder text = new StringBuilder(":");
        for (int shift = 112; shift >= 0; shift -= 16) {
            text.append(Integer.toHexString(one.address.shiftRight(shift).intValue() & 0xffff)).append(':');
        }
        for (int count = 8; count >= 2; count--) {
            int at = text.indexOf(":" + "0:".repeat(count));
            if (at >= 0) {
                text.replace(at, at + 1 + 2 * count, "#");
                break;
            }
        }
        String marked = text.toString();
        String open = marked.startsWith(":") ? marked.substring(1) : marked;
        String closed = open.endsWith(":") ? open.substring(0, open.length() - 1) : open;
        return closed.replace("#", "::");
    }

    private void writtenAt(int i) {
        int due = i >= 0 && i < written.length() ? written.charAt(i) : AddressTexts.NONE;
        Check.same("writtenAt(" + i + ")", due, x.writtenAt(i));
    }

    private void bits(int half) {
        long due = half == 0 ? one.address.shiftRight(64).longValue() : half == 1 ? one.address.longValue() : 0L;
        Check.same("bits(" + half + ")", due, x.bits(half));
    }
}
