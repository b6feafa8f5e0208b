import java.nio.charset.StandardCharsets;

/** What the tests share: putting texts on an object's tape, reading what it wrote, and counting wrong answers. */
final class Check {
    private static int asked = 0;
    private static int wrong = 0;
    private static String sentence = "";

    private Check() {
    }

    /** Tells which words of the document the answers from here on are held against. */
    static void sentence(String words) {
        sentence = "'" + words + "': ";
    }

    static void same(String call, Object want, Object got) {
        asked++;
        if (!want.equals(got)) {
            wrong++;
            System.out.println(sentence + call + " answered " + got + ", due is " + want);
        }
    }

    static void finish() {
        System.out.println(wrong == 0 ? asked + " answers are as due" : wrong + " of " + asked + " answers are not as due");
        if (wrong != 0) {
            System.exit(1);
        }
    }

    /** Feeds twenty bytes of a row from a place on, 0 where the row has ended. */
    static boolean feed(AddressTexts x, byte[] bytes, int from) {
        int[] numbers = new int[5];
        for (int i = 0; i < 20; i++) {
            int value = from + i < bytes.length ? bytes[from + i] & 255 : 0;
            numbers[i / 4] = numbers[i / 4] << 8 | value;
        }
        return x.feed(numbers[0], numbers[1], numbers[2], numbers[3], numbers[4]);
    }

    /** Puts a text of at most 60 bytes on an empty tape. */
    static void tape(AddressTexts x, String text) {
        byte[] bytes = text.getBytes(StandardCharsets.ISO_8859_1);
        for (int from = 0; from < bytes.length; from += 20) {
            same("feed of " + text, true, feed(x, bytes, from));
        }
        same("end of " + text, true, x.end(bytes.length));
    }

    static int read(AddressTexts x, String text) {
        tape(x, text);
        return x.read();
    }

    static int length(AddressTexts x, String text) {
        tape(x, text);
        return x.length();
    }

    /** The loop has a bound of its own, so that a broken writtenAt fails a test rather than hangs it. */
    static String written(AddressTexts x) {
        StringBuilder text = new StringBuilder();
        for (int i = 0; i < 100; i++) {
            int value = x.writtenAt(i);
            if (value == AddressTexts.NONE) {
                break;
            }
            text.append((char) value);
        }
        return text.toString();
    }

    static String write(AddressTexts x) {
        int count = x.write();
        String text = written(x);
        same("write() of " + text, text.length(), count);
        return text;
    }

    /** A new object with two prefixes, each told as address/length. */
    static AddressTexts pair(String one, String two) {
        AddressTexts x = new AddressTexts();
        prefix(x, two);
        prefix(x, one);
        return x;
    }

    static void prefix(AddressTexts x, String text) {
        int slash = text.indexOf('/');
        String address = text.substring(0, slash);
        same("read of " + address, address.indexOf(':') < 0 ? 4 : 6, read(x, address));
        String length = text.substring(slash + 1);
        same("length of " + length, Integer.parseInt(length), length(x, length));
    }

    /** Asks for ONE in full, for what it is on another object; leaves something written. */
    static void one(String when, AddressTexts x, String text, long upper, long lower) {
        same("bits(0) " + when, upper, x.bits(0));
        same("bits(1) " + when, lower, x.bits(1));
        same("written " + when, text, write(x));
    }
}
