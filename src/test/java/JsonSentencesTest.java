import java.io.IOException;
import java.nio.charset.StandardCharsets;

/** The sentences of the term JSON and of its FAULTS, which promise 5 uses, and the edges that each names. */
public final class JsonSentencesTest {
    private static final Bench bench = new Bench();
    private static final String BLANKS = "\t\n\r ";

    public static void main(String[] args) throws IOException {
        Sentences document = new Sentences(bench);
        document.section("Blanks: 9", "CBOR. An item's head");
        values(document);
        numbers(document);
        strings(document);
        faults(document);
        document.finish("JsonSentencesTest");
    }

    private static void values(Sentences document) {
        document.holds("Blanks: 9, 10, 13, 32.", JsonSentencesTest::blanksAreFour);
        document.holds("A value is false, true, null,", JsonSentencesTest::words);
        document.holds("a number, a string, [ values with , between ]", JsonSentencesTest::arrays);
        document.holds("{ members with , between }", JsonSentencesTest::maps);
        document.holds("a member being a string, :, a value.", JsonSentencesTest::members);
        document.holds("Blanks may stand ahead of and behind each of these and of signs.", JsonSentencesTest::blanksBetween);
    }

    private static void numbers(Sentences document) {
        document.holds("A number: perhaps -, then 0 or a digit 1 to 9 and digits", JsonSentencesTest::wholeParts);
        document.holds("perhaps . and digits (one at least)", JsonSentencesTest::fractions);
        document.holds("perhaps e or E, perhaps + or -, digits (one at least)", JsonSentencesTest::exponents);
    }

    private static void strings(Sentences document) {
        document.holds("A string: between \" and \", bytes from 32 on but \" and \\,", JsonSentencesTest::bytesOfStrings);
        document.holds("in UTF-8 (RFC 3629:", JsonSentencesTest::everySecondByte);
        document.holds("none longer than it must be", JsonSentencesTest::noneLonger);
        document.holds("no halves of pairs", JsonSentencesTest::noHalvesInBytes);
        document.holds("up to 10FFFF)", JsonSentencesTest::upToTheLast);
        document.holds("or \\ with one of \" \\ / b f n r t", JsonSentencesTest::letters);
        document.holds("or \\u and four hexadecimal digits (of either case)", JsonSentencesTest::fourDigits);
        document.holds(": a sign by its number;", JsonSentencesTest::everyNumber);
        document.holds("two of these, D800 to DBFF and DC00 to DFFF, one right behind the other, are one sign.",
            JsonSentencesTest::pairs);
        document.holds("Members stay as they come, also several of one key.", JsonSentencesTest::membersStay);
    }

    private static void faults(Sentences document) {
        document.holds("FAULTS, the first along the text", JsonSentencesTest::firstAlongTheText);
        document.holds("1 a byte with which no JSON text goes on", JsonSentencesTest::noTextGoesOn);
        document.holds("(the text's length, if more must come)", JsonSentencesTest::moreMustCome);
        document.holds("a byte of 128 and more outside of strings, too.", JsonSentencesTest::highBytesOutside);
        document.holds("2 bytes in a string that are no UTF-8, at the first byte of what isn't", JsonSentencesTest::placeOfNoSign);
        document.holds("an escape of half a pair without its other half (not followed at once by such an escape,",
            JsonSentencesTest::firstHalfAlone);
        document.holds("or of the second half ahead), at its \\.", JsonSentencesTest::secondHalfAhead);
        document.holds("3 a number that is one, but has . or e,", JsonSentencesTest::numbersWithParts);
        document.holds("or is beyond -2^64 to 2^64 - 1", JsonSentencesTest::numbersBeyond);
        document.holds("(-0 is 0)", JsonSentencesTest::noughtBelow);
        document.holds("at its first byte.", JsonSentencesTest::placeOfNumber);
        document.holds("4 a [ or { within as many as DEPTH tells, at it.", JsonSentencesTest::tooDeep);
        document.holds("Of two at one place the least one", JsonSentencesTest::leastOfTwo);
        document.holds("of 2 and 3 what stands behind in the same string or number isn't looked at.",
            JsonSentencesTest::behindInTheSame);
        document.holds("5, if there is none: the CBOR is longer than ROOM, at the text's length.", JsonSentencesTest::tooLong);
    }

    // ---- values

    private static void blanksAreFour() {
        for (int b = 0; b < 256; b++) {
            char sign = (char) b;
            String text = "[" + sign + "]";
            if (BLANKS.indexOf(sign) >= 0) {
                bench.cbor(text, "80");
                bench.cbor(sign + "1" + sign, "01");
            } else if (b >= '0' && b <= '9') {
                bench.cbor(text, String.format("81%02x", b - '0'));
            } else if (sign == '[' || sign == '"') {
                bench.cborFault(text, 1, 3);
            } else {
                bench.cborFault(text, 1, "]{-tfn".indexOf(sign) >= 0 ? 2 : 1);
            }
            if (BLANKS.indexOf(sign) < 0) {
                bench.cborFault("true" + sign, 1, 4);
            }
        }
    }

    private static void words() {
        String[] words = {"false", "true", "null"};
        String[] items = {"f4", "f5", "f6"};
        for (int w = 0; w < words.length; w++) {
            String word = words[w];
            bench.cbor(word, items[w]);
            for (int i = 0; i < word.length(); i++) {
                bench.cborFault(word.substring(0, i), 1, i);
                bench.cborFault(word.substring(0, i) + " " + word.substring(i) + "x", 1, i == 0 ? word.length() + 1 : i);
                bench.cborFault(word.substring(0, i) + Character.toUpperCase(word.charAt(i)) + word.substring(i + 1), 1, i);
            }
            bench.cborFault(word + word.charAt(word.length() - 1), 1, word.length());
        }
    }

    private static void arrays() {
        bench.cbor("[]", "80");
        bench.cbor("[1]", "8101");
        bench.cbor("[\"\",1,[],{},null]", "8560 01 80 a0 f6");
        bench.cborFault("[,]", 1, 1);
        bench.cborFault("[1,]", 1, 3);
        bench.cborFault("[,1]", 1, 1);
        bench.cborFault("[1,,1]", 1, 3);
        bench.cborFault("[1 1]", 1, 3);
        bench.cborFault("[1;1]", 1, 2);
        bench.cborFault("[\"a\":1]", 1, 4);
        bench.cborFault("[}", 1, 1);
        bench.cborFault("[1}", 1, 2);
        bench.cborFault("[]]", 1, 2);
        bench.cborFault("[],", 1, 2);
        bench.cborFault("1,2", 1, 1);
    }

    private static void maps() {
        bench.cbor("{}", "a0");
        bench.cbor("{\"a\":1}", "a1616101");
        bench.cbor("{\"a\":1,\"b\":{},\"c\":[]}", "a3 616101 6162a0 616380");
        bench.cborFault("{,}", 1, 1);
        bench.cborFault("{\"a\":1,}", 1, 7);
        bench.cborFault("{,\"a\":1}", 1, 1);
        bench.cborFault("{\"a\":1,,\"b\":1}", 1, 7);
        bench.cborFault("{\"a\":1 \"b\":1}", 1, 7);
        bench.cborFault("{\"a\":1]", 1, 6);
        bench.cborFault("{]", 1, 1);
        bench.cborFault("{}}", 1, 2);
    }

    private static void members() {
        bench.cbor("{\"\":\"\"}", "a16060");
        for (String key : new String[] {"1", "true", "false", "null", "[", "{", "]", ":", "a", "'", "-1"}) {
            bench.cborFault("{" + key + ":1}", 1, 1);
            bench.cborFault("{\"a\":1," + key + ":1}", 1, 7);
        }
        bench.cborFault("{\"a\"}", 1, 4);
        bench.cborFault("{\"a\",", 1, 4);
        bench.cborFault("{\"a\"1}", 1, 4);
        bench.cborFault("{\"a\"\"b\"}", 1, 4);
        bench.cborFault("{\"a\"=1}", 1, 4);
        bench.cborFault("{\"a\"::1}", 1, 5);
        bench.cborFault("{\"a\":}", 1, 5);
        bench.cborFault("{\"a\":,", 1, 5);
        bench.cborFault("{\"a\":1:2}", 1, 6);
    }

    private static void blanksBetween() {
        String[] parts = {"{", "\"a\"", ":", "[", "1", ",", "-2", ",", "true", ",", "null", ",", "\"\"", "]", ",", "\"b\"", ":", "{", "}", "}"};
        String want = "a2 6161 85 01 21 f5 f6 60 6162 a0";
        bench.cbor(String.join("", parts), want);
        for (String blank : new String[] {"\t", "\n", "\r", " ", "\r\n\t  "}) {
            bench.cbor(String.join(blank, parts), want);
            bench.cbor(blank + String.join(blank, parts) + blank, want);
        }
        bench.cbor("1" + " ".repeat(3999), "01");
        bench.cbor("\n".repeat(3999) + "1", "01");
        // Within numbers, words and strings they are other things.
        bench.cborFault("- 1", 1, 1);
        bench.cborFault("1 2", 1, 2);
        bench.cborFault("1 .5", 1, 2);
        bench.cborFault("1. 5", 1, 2);
        bench.cborFault("1e 5", 1, 2);
        bench.cborFault("t rue", 1, 1);
        bench.cbor("\" \"", "6120");
        bench.cborFault("\"\t\"", 1, 1);
    }

    // ---- numbers

    /** Each of all bytes behind the start; the answers are told by a digit, a blank, one of .eE, and by another byte. */
    private static void eachBehind(String start, int[] digit, int[] blank, int[] part, int[] other) {
        for (int b = 0; b < 256; b++) {
            char sign = (char) b;
            boolean isDigit = sign >= '0' && sign <= '9';
            int[] due = isDigit ? digit : BLANKS.indexOf(sign) >= 0 ? blank : ".eE".indexOf(sign) >= 0 ? part : other;
            if (due == null) {
                bench.due("toCbor of " + start + sign, Bench.loaded(Bench.bytes(start + sign)).toCbor() > 0 ? 1 : 0, 1);
            } else {
                bench.cborFault(start + sign, due[0], due[1]);
            }
        }
    }

    private static int[] fault(int kind, int place) {
        return new int[] {kind, place};
    }

    private static void wholeParts() {
        String[] numbers = {"0", "1", "9", "10", "90", "100", "-1", "-9", "-10"};
        String[] items = {"00", "01", "09", "0a", "185a", "1864", "20", "28", "29"};
        for (int i = 0; i < numbers.length; i++) {
            bench.cbor(numbers[i], items[i]);
        }
        eachBehind("-", null, fault(1, 1), fault(1, 1), fault(1, 1));
        eachBehind("0", fault(1, 1), null, fault(1, 2), fault(1, 1));
        eachBehind("-0", fault(1, 2), null, fault(1, 3), fault(1, 2));
        eachBehind("1", null, null, fault(1, 2), fault(1, 1));
        eachBehind("-9", null, null, fault(1, 3), fault(1, 2));
        bench.cborFault("+1", 1, 0);
        bench.cborFault("-", 1, 1);
        bench.cborFault("007", 1, 1);
    }

    private static void fractions() {
        eachBehind("0.", fault(3, 0), fault(1, 2), fault(1, 2), fault(1, 2));
        eachBehind("-12.", fault(3, 0), fault(1, 4), fault(1, 4), fault(1, 4));
        bench.cborFault("1.", 1, 2);
        bench.cborFault("1.0", 3, 0);
        bench.cborFault("1.0000000000000000000000000", 3, 0);
        bench.cborFault(".5", 1, 0);
        bench.cborFault("-.5", 1, 1);
    }

    private static void exponents() {
        for (String start : new String[] {"0e", "1E", "10e", "1.5E"}) {
            int place = start.length();
            bench.cborFault(start, 1, place);
            bench.cborFault(start + "0", 3, 0);
            for (char sign : "+-".toCharArray()) {
                bench.cborFault(start + sign, 1, place + 1);
                bench.cborFault(start + sign + "0", 3, 0);
                eachBehind(start + sign, fault(3, 0), fault(1, place + 1), fault(1, place + 1), fault(1, place + 1));
            }
            for (char sign : ".eE \u0000]\u0080".toCharArray()) {
                bench.cborFault(start + sign, 1, place);
            }
        }
        bench.cborFault("e5", 1, 0);
        bench.cborFault("-e5", 1, 1);
    }

    // ---- strings

    private static void bytesOfStrings() {
        for (int b = 0; b < 256; b++) {
            String text = "\"" + (char) b + "\"";
            if (b < 32) {
                bench.cborFault(text, 1, 1);
                bench.cborFault("\"abc" + (char) b + "\"", 1, 4);
            } else if (b == '"') {
                bench.cborFault(text, 1, 2);
            } else if (b == '\\') {
                bench.cborFault(text, 1, 3);
            } else if (b < 128) {
                bench.cbor(text, String.format("61%02x", b));
            } else {
                bench.cborFault(text, 2, 1);
            }
        }
        bench.cbor("\"\"", "60");
        bench.cbor("\"" + "a".repeat(3997) + "\"", "790f9d" + "61".repeat(3997));
        bench.cborFault("\"" + "a".repeat(3999), 1, 4000);
    }

    private static void everySecondByte() {
        for (int first = 0x80; first < 256; first++) {
            int behind = first < 0xE0 ? 1 : first < 0xF0 ? 2 : 3;
            for (int second = 0; second < 256; second++) {
                for (char tail : "\u0080\u00bf".toCharArray()) {
                    String text = "" + (char) first + (char) second + String.valueOf(tail).repeat(behind - 1);
                    sign(text, Bench.isSecondOf(first, second));
                }
            }
        }
        for (int b = 0; b < 256; b++) {
            boolean isBehind = b >= 0x80 && b <= 0xBF;
            sign("\u00e2\u0082" + (char) b, isBehind);
            sign("\u00f1\u0080" + (char) b + "\u0080", isBehind);
            sign("\u00f1\u0080\u0080" + (char) b, isBehind);
        }
    }

    /** Between a sign of one byte ahead and the string's end. */
    private static void sign(String text, boolean isOne) {
        TextBridge x = Bench.loaded(Bench.bytes("\"a" + text + "\""));
        if (!isOne) {
            bench.cborFault(x, Bench.shown(Bench.bytes(text)), 2, 2);
            return;
        }
        bench.due("toCbor of " + Bench.shown(Bench.bytes(text)), x.toCbor(), 2 + text.length());
        for (int i = 0; i < text.length(); i++) {
            bench.due("byte " + i + " of " + Bench.shown(Bench.bytes(text)), x.out(2 + i), text.charAt(i));
        }
    }

    private static void noneLonger() {
        // The last that would be too long, and the first that is not, of each length.
        sign("\u00c0\u0080", false);
        sign("\u00c1\u00bf", false);
        sign("\u00c2\u0080", true);
        sign("\u00e0\u0080\u0080", false);
        sign("\u00e0\u009f\u00bf", false);
        sign("\u00e0\u00a0\u0080", true);
        sign("\u00f0\u0080\u0080\u0080", false);
        sign("\u00f0\u008f\u00bf\u00bf", false);
        sign("\u00f0\u0090\u0080\u0080", true);
    }

    private static void noHalvesInBytes() {
        sign("\u00ed\u009f\u00bf", true);
        sign("\u00ed\u00a0\u0080", false);
        sign("\u00ed\u00af\u00bf", false);
        sign("\u00ed\u00b0\u0080", false);
        sign("\u00ed\u00bf\u00bf", false);
        sign("\u00ee\u0080\u0080", true);
        // Nor two, one behind the other.
        sign("\u00ed\u00a0\u0080\u00ed\u00b0\u0080", false);
    }

    private static void upToTheLast() {
        sign("\u00f4\u008f\u00bf\u00bf", true);
        sign("\u00f4\u0090\u0080\u0080", false);
        for (int first = 0xF5; first < 256; first++) {
            sign((char) first + "\u0080\u0080\u0080", false);
            sign((char) first + "\u0080\u0080\u0080\u0080\u0080", false);
        }
    }

    private static void letters() {
        String known = "\"\\/bfnrt";
        String signs = "\"\\/\b\f\n\r\t";
        for (int b = 0; b < 256; b++) {
            String text = "\"\\" + (char) b + "\"";
            int index = known.indexOf((char) b);
            if (index >= 0) {
                bench.cbor(text, String.format("61%02x", (int) signs.charAt(index)));
            } else {
                bench.cborFault(text, 1, b == 'u' ? 3 : 2);
            }
        }
        bench.cborFault("\"\\", 1, 2);
        bench.cborFault("\"\\\"", 1, 3);
        bench.cbor("\"\\\\\"", "615c");
        bench.cbor("\"\\\\n\"", "625c6e");
    }

    private static void fourDigits() {
        for (int place = 0; place < 4; place++) {
            for (int b = 0; b < 256; b++) {
                StringBuilder digits = new StringBuilder("1111");
                digits.setCharAt(place, (char) b);
                String text = "\"\\u" + digits + "\"";
                int value = b < 128 ? Character.digit((char) b, 16) : -1;
                if (value < 0) {
                    bench.cborFault(text, 1, 3 + place);
                } else if (place > 0 || value != 13) {
                    int code = 0x1111 + (value - 1 << 12 - 4 * place);
                    bench.cbor(text, Bench.hex(itemOf(code)));
                }
            }
            bench.cborFault("\"\\u" + "1".repeat(place), 1, 3 + place);
        }
        bench.cbor("\"\\u11111\"", "64 e18491 31");
    }

    /** The text that has this sign alone. */
    private static byte[] itemOf(int code) {
        byte[] sign = new String(Character.toChars(code)).getBytes(StandardCharsets.UTF_8);
        return Bench.join(new byte[] {(byte) (0x60 + sign.length)}, sign);
    }

    private static void writes(String json, byte[] item) {
        TextBridge x = Bench.loaded(Bench.bytes(json));
        bench.due("toCbor of " + json, x.toCbor(), item.length);
        for (int i = 0; i <= item.length; i++) {
            bench.due("byte " + i + " of " + json, x.out(i), i < item.length ? item[i] & 255 : -1);
        }
    }

    private static void everyNumber() {
        for (int code = 0; code < 0x10000; code++) {
            String format = code % 2 == 0 ? "\"\\u%04x\"" : "\"\\u%04X\"";
            if (!Character.isSurrogate((char) code)) {
                writes(String.format(format, code), itemOf(code));
            }
        }
    }

    private static void pairs() {
        for (int i = 0; i < 1024; i++) {
            for (int edge : new int[] {0, 1, 1022, 1023}) {
                pair(0xD800 + i, 0xDC00 + edge);
                pair(0xD800 + edge, 0xDC00 + i);
            }
        }
        bench.cbor("\"\\uD800\\udc00\\udbff\\uDFFF\"", "68 f0908080 f48fbfbf");
        // The neighbours of both rows are whole signs, or are none.
        bench.cbor("\"\\ud7ff\\ue000\"", "66 ed9fbf ee8080");
        bench.cborFault("\"\\ud7ff\\udc00\"", 2, 7);
        bench.cborFault("\"\\ud800\\udbff\"", 2, 1);
        bench.cborFault("\"\\ud800\\ue000\"", 2, 1);
        bench.cborFault("\"\\ue000\\udc00\"", 2, 7);
    }

    private static void pair(int first, int second) {
        writes(String.format("\"\\u%04x\\u%04x\"", first, second), itemOf(Character.toCodePoint((char) first, (char) second)));
    }

    private static void membersStay() {
        bench.cbor("{\"b\":1,\"a\":2}", "a2 616201 616102");
        bench.cbor("{\"a\":1,\"a\":1}", "a2 616101 616101");
        bench.cbor("{\"a\":1,\"b\":2,\"a\":3}", "a3 616101 616202 616103");
        bench.cbor("{\"\":1,\"\":2}", "a2 6001 6002");
        bench.cbor("{\"a\":1,\"\\u0061\":2}", "a2 616101 616102");
        bench.cbor("{" + "\"a\":0,".repeat(24) + "\"a\":1}", "b819" + "616100".repeat(24) + "616101");
    }

    // ---- faults

    private static void firstAlongTheText() {
        // Of each two kinds, either ahead.
        String[] parts = {"x", "\"\u0080\"", "1.5", "[["};
        int[] places = {0, 1, 0, 1};
        for (int i = 0; i < parts.length; i++) {
            for (String later : parts) {
                bench.cborFault(2, 4000, "[0," + parts[i] + "," + later, i + 1, 3 + places[i]);
                bench.cborFault(2, 0, "[" + parts[i] + "," + later + " ]", i + 1, 1 + places[i]);
            }
        }
        bench.cborFault("\"\n\u0080\"", 1, 1);
        bench.cborFault("\"\u0080\n\"", 2, 1);
        bench.cborFault("\"\\q\\ud800\"", 1, 2);
        bench.cborFault("\"\\ud800\\q\"", 2, 1);
    }

    private static void noTextGoesOn() {
        // A start of a text, and bytes that can't stand behind it.
        String map = "[true,{";
        String key = map + "\"a\\n\\u0041\"";
        String[][] rows = {{"", "]},:x+'"}, {"[", "},:x+'"}, {"[t", "xR "}, {"[tru", "E \n"}, {"[true", "}:0e\""}, {"[true,", "],:}x"},
            {map, "]1,[{t'"}, {map + "\"a", "\n\u0000\u001f"}, {map + "\"a\\", "x0N' "}, {map + "\"a\\n\\u", "\"gG+ "},
            {map + "\"a\\n\\u0", "\"/:@"}, {map + "\"a\\n\\u00", "`-\""}, {map + "\"a\\n\\u004", "\"g "}, {key, ",}]1=\""},
            {key + ":", ",}]:x+."}, {key + ":-", "+-. \"e"}, {key + ":-1", "x]:-+\""}, {key + ":-10", "x]:[{"}, {key + ":-10}", "};:1\""},
            {key + ":-10},", "],}"}, {key + ":-10},\"", "\u0001\n"}, {key + ":-10},\"b\"", "}:1\"x"}, {key + ":-10},\"b\"]", "]x1,\u0000"}};
        for (String[] row : rows) {
            for (char sign : row[1].toCharArray()) {
                bench.cborFault(row[0] + sign, 1, row[0].length());
                bench.cborFault(row[0] + sign + "1]", 1, row[0].length());
            }
        }
        bench.cbor(key + ":-10},\"b\"]", "83 f5 a1 63 610a41 29 6162");
    }

    private static void moreMustCome() {
        String text = " {\"a\\n\\u00E4\" : [ -12 , 0 ,true,false,null,\"xy\\/\" , [ ] ] ,\"b\":{ } } ";
        int whole = text.lastIndexOf('}');
        for (int i = 0; i <= whole; i++) {
            bench.cborFault(text.substring(0, i), 1, i);
        }
        bench.due("the whole text", Bench.loaded(Bench.bytes(text.substring(0, whole + 1))).toCbor() > 0 ? 1 : 0, 1);
        bench.cborFault("", 1, 0);
        bench.cborFault(" ", 1, 1);
        bench.cborFault("-", 1, 1);
        bench.cborFault("[" + "1,".repeat(1999), 1, 3999);
        bench.cborFault("[" + " ".repeat(3999), 1, 4000);
        bench.cborFault(" ".repeat(4000), 1, 4000);
    }

    private static void highBytesOutside() {
        String[] starts = {"", " ", "[", "[1", "[1,", "[\"\"", "{", "{\"a\"", "{\"a\":", "{\"a\":1", "{\"a\":1,", "t", "nul",
            "true", "0", "1", "-", "1.", "1e", "1e+", "[]", "{}", "\"\""};
        for (String start : starts) {
            for (int b = 128; b < 256; b++) {
                bench.cborFault(start + (char) b, 1, start.length());
            }
            bench.cborFault(start + "\u00c2\u00a0", 1, start.length());
            bench.cborFault(start + "\u00ef\u00bb\u00bf", 1, start.length());
        }
        // Within an escape they are no signs of the string.
        bench.cborFault("\"\\\u00c3\u00a4\"", 1, 2);
        bench.cborFault("\"\\u00\u00c3\u00a4\"", 1, 5);
    }

    private static void placeOfNoSign() {
        String[] none = {"\u0080", "\u00bf", "\u00c2", "\u00c3(", "\u00c3\u00c3", "\u00e2\u0082", "\u00e2(", "\u00e2\u0082(", "\u00e2\u0082\u00c3",
            "\u00f0\u009f\u0098", "\u00f0\u009f", "\u00f0", "\u00f0\u009f\u0098(", "\u00ff", "\u00fe"};
        for (String bytes : none) {
            bench.cborFault("\"" + bytes + "\"", 2, 1);
            bench.cborFault("\"ab" + bytes + "\"", 2, 3);
            bench.cborFault("\"\u00c3\u00a4\u00e2\u0082\u00ac\u00f0\u009f\u0098\u0080" + bytes + "\"", 2, 10);
            bench.cborFault("\"\\n\\u00e4\\ud83d\\ude00" + bytes + "\"", 2, 21);
            bench.cborFault("{\"" + bytes + "\":1}", 2, 2);
            // Cut off by the text's end.
            bench.cborFault("\"" + bytes, 2, 1);
        }
    }

    private static void firstHalfAlone() {
        for (String half : new String[] {"\\ud800", "\\uD800", "\\udbff", "\\uDBFF", "\\udabc"}) {
            String[] behind = {"\"", " \\udc00\"", "a\"", "\\n\"", "\\\\udc00\"", "\\u0041\"", "\\ud800\"", "\\udbff\\udc00\"",
                "\\ue000\"", "\\udbff\"", "udc00\"", "\\Udc00\"", "\u00c3\u00a4\"", "\u00ed\u00b0\u0080\"", "\\\"\"", "\\udc0\"", "\\udc0g\"", "\\u\""};
            for (String more : behind) {
                bench.cborFault("\"" + half + more, 2, 1);
                bench.cborFault("[\"xy" + half + more, 2, 4);
                bench.cborFault("\"\\ud83d\\ude00" + half + more, 2, 13);
            }
            // Cut off by the text's end.
            for (String more : new String[] {"", "\\", "\\u", "\\ud", "\\udc", "\\udc0"}) {
                bench.cborFault("\"" + half + more, 2, 1);
            }
            bench.cborFault("\"" + half + "\\udc00", 1, 13);
        }
    }

    private static void secondHalfAhead() {
        for (String half : new String[] {"\\udc00", "\\uDC00", "\\udfff", "\\uDFFF", "\\udead"}) {
            for (String more : new String[] {"\"", "\\ud800\"", "\\ud800\\udc00\"", "a\"", "", "\\", "\\q"}) {
                bench.cborFault("\"" + half + more, 2, 1);
                bench.cborFault("\"ab" + half + more, 2, 3);
                bench.cborFault("\"\\ud83d\\ude00" + half + more, 2, 13);
                bench.cborFault("{\"" + half + more, 2, 2);
            }
        }
        // Not yet an escape of a half.
        bench.cborFault("\"\\udc0", 1, 6);
        bench.cborFault("\"\\udc0\"", 1, 6);
        bench.cborFault("\"\\ud80x\"", 1, 6);
    }

    private static void numbersWithParts() {
        for (String number : new String[] {"0.0", "1.0", "-1.0", "0e0", "0E0", "1e0", "1E0", "1e+0", "1e-0", "1E+1", "1E-1", "-0.0",
            "-0e0", "1.0e0", "10.01E+10", "1e99999", "0.1", "123456789.0", "-0.0E-0"}) {
            bench.cborFault(number, 3, 0);
            bench.cborFault(number + " ", 3, 0);
            bench.cborFault("[" + number + "]", 3, 1);
            bench.cborFault("{\"a\":" + number + "}", 3, 5);
        }
        // What is none has no fault 3.
        for (String number : new String[] {"0.", "-1.", "1e", "1E+", "1.5e", "1.5E-", "1.0e+"}) {
            bench.cborFault(number, 1, number.length());
            bench.cborFault(number + "]", 1, number.length());
            bench.cborFault(number + ".", 1, number.length());
        }
    }

    private static void numbersBeyond() {
        bench.cbor("18446744073709551614", "1bfffffffffffffffe");
        bench.cbor("18446744073709551615", "1bffffffffffffffff");
        bench.cborFault("18446744073709551616", 3, 0);
        bench.cborFault("18446744073709551617", 3, 0);
        bench.cbor("-18446744073709551615", "3bfffffffffffffffe");
        bench.cbor("-18446744073709551616", "3bffffffffffffffff");
        bench.cborFault("-18446744073709551617", 3, 0);
        bench.cborFault("-18446744073709551618", 3, 0);
        // Where an int or a long goes round.
        bench.cbor("2147483647", "1a7fffffff");
        bench.cbor("2147483648", "1a80000000");
        bench.cbor("-2147483648", "3a7fffffff");
        bench.cbor("-2147483649", "3a80000000");
        bench.cbor("9223372036854775807", "1b7fffffffffffffff");
        bench.cbor("9223372036854775808", "1b8000000000000000");
        bench.cbor("-9223372036854775808", "3b7fffffffffffffff");
        bench.cbor("-9223372036854775809", "3b8000000000000000");
        bench.cbor("9999999999999999999", "1b8ac7230489e7ffff");
        bench.cbor("10000000000000000000", "1b8ac7230489e80000");
        String[] beyond = {"18446744073709551620", "18446744073709551700", "18446744073709560000", "19446744073709551615",
            "20000000000000000000", "36893488147419103232", "55340232221128654847", "99999999999999999999", "100000000000000000000",
            "184467440737095516150", "184467440737095516160", "340282366920938463463374607431768211456", "9".repeat(3998)};
        for (String number : beyond) {
            bench.cborFault(number, 3, 0);
            bench.cborFault("-" + number, 3, 0);
        }
        // Each place where a head of CBOR grows.
        String[] edges = {"23", "24", "255", "256", "65535", "65536", "4294967295", "4294967296"};
        String[] items = {"17", "1818", "18ff", "190100", "19ffff", "1a00010000", "1affffffff", "1b0000000100000000"};
        String[] below = {"-24", "-25", "-256", "-257", "-65536", "-65537", "-4294967296", "-4294967297"};
        for (int i = 0; i < edges.length; i++) {
            bench.cbor(edges[i], items[i]);
            bench.cbor(below[i], "3" + items[i].substring(1));
        }
    }

    private static void noughtBelow() {
        bench.cbor("-0", "00");
        bench.cbor("[-0,0,-1]", "83000020");
        bench.cborFault("-0.0", 3, 0);
        bench.cborFault("-00", 1, 2);
    }

    private static void placeOfNumber() {
        bench.cborFault(" 1.5", 3, 1);
        bench.cborFault(" -1.5", 3, 1);
        bench.cborFault("[1,22,-33e1]", 3, 6);
        bench.cborFault("{\"a\" : \t18446744073709551616}", 3, 8);
        bench.cborFault("{\"a\":[-18446744073709551617", 3, 6);
        bench.cborFault(" ".repeat(3980) + "18446744073709551616", 3, 3980);
        bench.cborFault(" ".repeat(3997) + "1e1", 3, 3997);
    }

    private static void tooDeep() {
        for (int depth = 0; depth <= 40; depth++) {
            bench.cborFault(depth, 6000, "[".repeat(depth) + "[", 4, depth);
            bench.cborFault(depth, 6000, "[".repeat(depth) + " {", 4, depth + 1);
            bench.cborFault(depth, 6000, "[".repeat(depth) + "[" + "]".repeat(depth + 1), 4, depth);
            bench.cborFault(depth, 6000, "{\"\":".repeat(depth) + "[", 4, 4 * depth);
            bench.cborFault(depth, 6000, "{\"\":".repeat(depth) + "{", 4, 4 * depth);
            // Not what is just as deep, nor what lies behind a closed one.
            bench.cborFault(depth, 6000, "[".repeat(depth), 1, depth);
            if (depth >= 2) {
                String text = "[".repeat(depth - 1) + "[],{},[],{\"a\":1},1" + "]".repeat(depth - 1);
                bench.due("siblings at DEPTH " + depth, Bench.bounded(Bench.bytes(text), depth, 6000).toCbor(), depth + 7);
            }
        }
        bench.due("a number at DEPTH 0", Bench.bounded(Bench.bytes("1"), 0, 6000).toCbor(), 1);
        bench.due("an array at DEPTH 1", Bench.bounded(Bench.bytes("[1]"), 1, 6000).toCbor(), 2);
        bench.cborFault(0, 6000, "[]", 4, 0);
        bench.cborFault(0, 6000, "{}", 4, 0);
        bench.cborFault(1, 6000, "[[],[]]", 4, 1);
        bench.cborFault(1, 6000, "[1,2,{}]", 4, 5);
        bench.cborFault(2, 6000, "[[],[],[[", 4, 8);
        TextBridge text = Bench.bounded(Bench.bytes("\"[[{{\""), 0, 6000);
        bench.due("in a string they are signs", text.toCbor(), 5);
    }

    private static void leastOfTwo() {
        // 1 and 4.
        bench.cborFault(0, 6000, "1[", 1, 1);
        bench.cborFault(1, 6000, "[1[", 1, 2);
        bench.cborFault(1, 6000, "[1 {", 1, 3);
        bench.cborFault(1, 6000, "{[", 1, 1);
        bench.cborFault(1, 6000, "{{", 1, 1);
        bench.cborFault(1, 6000, "{\"a\"[", 1, 4);
        bench.cborFault(1, 6000, "{\"a\":1[", 1, 6);
        bench.cborFault(1, 6000, "{\"a\":1,[", 1, 7);
        bench.cborFault(0, 6000, "\"a\"{", 1, 3);
        // 1 and 3.
        bench.cborFault("{1.5:1}", 1, 1);
        bench.cborFault("[1 2.5]", 1, 3);
        bench.cborFault("\"a\"2.5", 1, 3);
        bench.cborFault("{\"a\"1e5}", 1, 4);
        bench.cborFault("[]18446744073709551616", 1, 2);
        bench.cborFault("{\"a\":1,-1.5", 1, 7);
        // 1 and 2.
        bench.cborFault("\"\\\u0080\"", 1, 2);
        bench.cborFault("\"\\u\u00ff\"", 1, 3);
        bench.cborFault("\"\\u123\u00c3\"", 1, 6);
        bench.cborFault("\"a\"\u0080", 1, 3);
        // 1 and 5, both at the text's length.
        bench.cborFault(20, 0, "[", 1, 1);
        bench.cborFault(20, 0, "\"abc", 1, 4);
        bench.cborFault(20, 0, "1.", 1, 2);
    }

    private static void behindInTheSame() {
        for (String more : new String[] {"\n\"", "\\q\"", "\\u12", "\u00ff\"", "\\ud800\"", "", "\"", "\u0000", "\"x"}) {
            bench.cborFault("\"\u00ff" + more, 2, 1);
            bench.cborFault("\"\\ud800" + more, 2, 1);
            bench.cborFault("\"\\udfff" + more, 2, 1);
        }
        for (String number : new String[] {"1.5", "1e5", "1.5e5", "18446744073709551616", "-18446744073709551617"}) {
            bench.cborFault(number + "x", 3, 0);
            bench.cborFault(number + "\u0080", 3, 0);
            bench.cborFault(number + "-", 3, 0);
            bench.cborFault("[" + number + "\u0000", 3, 1);
        }
        bench.cborFault("1.5.5", 3, 0);
        bench.cborFault("1e5.5", 3, 0);
        bench.cborFault("1e5e5", 3, 0);
        bench.cborFault("18446744073709551616" + "0".repeat(3980), 3, 0);
        bench.cborFault("1e" + "9".repeat(3998), 3, 0);
    }

    private static void tooLong() {
        String[] texts = {"0", "24", "\"\"", "\"abc\"", "[1,2,3]", "{\"a\":1}", " [ 1 , 2 ] ", "-18446744073709551616", "\"\\u00e4\\ud83d\\ude00\""};
        int[] sizes = {1, 2, 1, 4, 4, 4, 3, 9, 7};
        for (int i = 0; i < texts.length; i++) {
            byte[] json = Bench.bytes(texts[i]);
            bench.due("just in ROOM: " + texts[i], Bench.bounded(json, 20, sizes[i]).toCbor(), sizes[i]);
            for (int room = 0; room < sizes[i]; room++) {
                bench.cborFault(20, room, texts[i], 5, texts[i].length());
            }
        }
        // If there is none: each other one, however late, goes ahead of it.
        bench.cborFault(20, 0, "[1,2,3]x", 1, 7);
        bench.cborFault(20, 0, "[1,2,3,\"\u0080\"]", 2, 8);
        bench.cborFault(20, 0, "[1,2,3,1.5]", 3, 7);
        bench.cborFault(1, 0, "[1,2,3,[]]", 4, 7);
        bench.cborFault(20, 6000, "[" + "1,".repeat(1998) + "x]", 1, 3997);
        bench.cborFault(20, 3999, "\"" + "a".repeat(3997) + "\" ", 5, 4000);
        bench.cborFault(20, 4000, "\"" + "a".repeat(3998) + "\"", 5, 4000);
        bench.due("4001 in 4001", Bench.bounded(Bench.bytes("\"" + "a".repeat(3998) + "\""), 20, 4001).toCbor(), 4001);
    }
}
