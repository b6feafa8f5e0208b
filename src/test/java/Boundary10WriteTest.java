/** Promise 10 and what the document's terms say of the form that is written, sentence by sentence. */
public final class Boundary10WriteTest {
    public static void main(String[] args) {
        howManyBytes();
        oneIsWritten();
        numbersWithoutZerosAhead();
        smallLetters();
        partsWithoutZerosAhead();
        noGapForOnePart();
        aGapForTwoOrMore();
        theLongestRow();
        ofSeveralTheFirst();
        whatWasWrittenBeforeIsGone();
        changesNothingElse();
        Check.finish();
    }

    private static void writes(String text, String due) {
        AddressTexts x = new AddressTexts();
        Check.read(x, text);
        Check.same("write() of " + text, due.length(), x.write());
        Check.same("written of " + text, due, Check.written(x));
    }

    private static void howManyBytes() {
        Check.sentence("how many bytes");
        AddressTexts x = new AddressTexts();
        Check.same("write() of a new object", 7, x.write());
        Check.read(x, State.ALL_4);
        Check.same("write() of the longest of family 4", 15, x.write());
        Check.read(x, "::");
        Check.same("write() of the shortest of family 6", 2, x.write());
        Check.read(x, State.ALL_6);
        Check.same("write() of the longest of family 6", 39, x.write());
        Check.same("its last byte", (int) 'f', x.writtenAt(38));
    }

    private static void oneIsWritten() {
        Check.sentence("ONE is written");
        AddressTexts x = Check.pair("1.2.3.4/9", "5:6::7/17");
        Check.same("ONE", "1.2.3.4", Check.write(x));
        x.turn();
        Check.same("ONE, turned", "5:6::7", Check.write(x));
        Check.same("cut()", true, x.cut());
        Check.same("ONE, cut", "5::", Check.write(x));
        Check.same("length of 0", 0, Check.length(x, "0"));
        Check.same("ONE with length 0, not cut", "5::", Check.write(x));
    }

    private static void numbersWithoutZerosAhead() {
        Check.sentence("four numbers 0 .. 255 without 0s ahead, with . between");
        for (int number = 0; number <= 255; number++) {
            String text = number + "." + (255 - number) + "." + (number ^ 85) + "." + number;
            writes(text, text);
        }
    }

    private static void smallLetters() {
        Check.sentence("written in small letters");
        writes("ABCD:EF:FEDC:BA:AAAA:BBBB:CCCC:DDDD", "abcd:ef:fedc:ba:aaaa:bbbb:cccc:dddd");
        writes("AbCd:eF::9A", "abcd:ef::9a");
        writes("0:1:2:3:4:5:6:7", "0:1:2:3:4:5:6:7");
        writes("8:9:A:B:C:D:E:F", "8:9:a:b:c:d:e:f");
    }

    private static void partsWithoutZerosAhead() {
        Check.sentence("parts without 0s ahead");
        writes("0001:0010:0100:1000:000f:00f0:0f00:f000", "1:10:100:1000:f:f0:f00:f000");
        writes("0101:1001:0110:1010:0011:1100:1110:0111", "101:1001:110:1010:11:1100:1110:111");
        writes("0000:1:2:3:4:5:6:0000", "0:1:2:3:4:5:6:0");
    }

    /** The one part 0 is read as 0, and as ::, and is written as 0 both times. */
    private static void noGapForOnePart() {
        Check.sentence(":: for the longest row of two or more parts 0: not for one");
        String[] withGap = {
            "::2:3:4:5:6:7:8", "1::3:4:5:6:7:8", "1:2::4:5:6:7:8", "1:2:3::5:6:7:8", "1:2:3:4::6:7:8", "1:2:3:4:5::7:8", "1:2:3:4:5:6::8",
            "1:2:3:4:5:6:7::",
        };
        for (int zero = 0; zero < 8; zero++) {
            String[] parts = {"1", "2", "3", "4", "5", "6", "7", "8"};
            parts[zero] = "0";
            String due = String.join(":", parts);
            writes(due, due);
            writes(withGap[zero], due);
        }
        writes("0:1:0:1:0:1:0:1", "0:1:0:1:0:1:0:1");
        writes("1:0:1:0:1:0:1:0", "1:0:1:0:1:0:1:0");
    }

    /** Every row of two or more of the eight parts. */
    private static void aGapForTwoOrMore() {
        Check.sentence(":: for the .. row of two or more parts 0");
        for (int from = 0; from < 7; from++) {
            for (int to = from + 1; to < 8; to++) {
                StringBuilder full = new StringBuilder();
                StringBuilder due = new StringBuilder();
                for (int part = 0; part < 8; part++) {
                    boolean isZero = part >= from && part <= to;
                    full.append(part == 0 ? "" : ":").append(isZero ? 0 : part + 1);
                    if (part == from) {
                        due.append("::");
                    }
                    if (!isZero) {
                        due.append(part == 0 || part == to + 1 ? "" : ":").append(part + 1);
                    }
                }
                writes(full.toString(), due.toString());
            }
        }
    }

    private static void theLongestRow() {
        Check.sentence(":: for the longest row");
        writes("0:0:1:0:0:0:1:1", "0:0:1::1:1");
        writes("0:0:0:1:0:0:1:1", "::1:0:0:1:1");
        writes("0:0:1:0:0:0:0:0", "0:0:1::");
        writes("0:0:0:1:0:0:0:0", "0:0:0:1::");
        writes("0:0:0:0:1:0:0:0", "::1:0:0:0");
        writes("0:0:0:0:0:1:0:0", "::1:0:0");
        writes("1:0:0:1:0:0:0:1", "1:0:0:1::1");
        writes("1:0:0:0:1:0:0:1", "1::1:0:0:1");
        writes("0:1:0:0:1:0:0:0", "0:1:0:0:1::");
        writes("0:1:1:1:1:1:0:0", "0:1:1:1:1:1::");
        writes("0:0:1:1:1:1:1:0", "::1:1:1:1:1:0");
    }

    private static void ofSeveralTheFirst() {
        Check.sentence("(of several the first)");
        writes("0:0:1:1:1:1:0:0", "::1:1:1:1:0:0");
        writes("0:0:1:0:0:1:0:0", "::1:0:0:1:0:0");
        writes("1:0:0:1:0:0:1:1", "1::1:0:0:1:1");
        writes("1:0:0:1:1:0:0:1", "1::1:1:0:0:1");
        writes("1:1:0:0:1:1:0:0", "1:1::1:1:0:0");
        writes("0:0:0:1:0:0:0:1", "::1:0:0:0:1");
        writes("0:0:0:1:1:0:0:0", "::1:1:0:0:0");
        writes("1:0:0:0:1:0:0:0", "1::1:0:0:0");
        writes("0:1:0:0:1:0:0:1", "0:1::1:0:0:1");
        writes("1:0:0:1::1", "1:0:0:1::1");
        writes("1:0:0:1:1::1", "1::1:1:0:0:1");
    }

    private static void whatWasWrittenBeforeIsGone() {
        Check.sentence("ONE is written: in place of what was before");
        AddressTexts x = new AddressTexts();
        String[] texts = {State.ALL_6, "::", State.ALL_4, "1.2.3.4", "::1", State.ALL_6, "0.0.0.0"};
        for (String text : texts) {
            Check.read(x, text);
            Check.same("written", text, Check.write(x));
            Check.same("written twice", text, Check.write(x));
        }
    }

    private static void changesNothingElse() {
        Check.sentence("ONE is written: nothing else changes");
        AddressTexts x = State.sample("7.8.9.10");
        Check.same("write()", 15, x.write());
        String due = "tape 8, written " + State.ALL_4 + ", ONE " + State.ALL_4 + "/9, TWO " + State.ALL_6 + "/17, tape reads 7.8.9.10";
        Check.same("state after a write", due, State.of(x, 8));
    }
}
