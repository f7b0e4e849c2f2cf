import java.io.IOException;

/** The sentences of the term CBOR and of the FAULTS of an item, which promise 6 uses, and the edges that each names. */
public final class CborSentencesTest {
    private static final Bench bench = new Bench();
    /** A head alone, as a part of an array, as a map's item, and deeper: where an item may stand. */
    private static final String[] AHEAD = {"", "8200", "82 6161", "a1 6161", "a2 6161 00 6162", "81 a1 60"};

    public static void main(String[] args) throws IOException {
        Sentences document = new Sentences(bench);
        document.section("An item's head", "An empty TAPE");
        items(document);
        faultsOfHeads(document);
        otherFaults(document);
        texts(document);
        document.finish("CborSentencesTest");
    }

    private static void items(Sentences document) {
        document.holds("An item's head: a byte, its highest three bits the type T, its lowest five A:", CborSentencesTest::firstBytes);
        document.holds("0 to 23 the number itself;", CborSentencesTest::numbersItself);
        document.holds("24, 25, 26, 27: the number in one, two, four, eight bytes behind, the highest first.", CborSentencesTest::numbersBehind);
        document.holds("T 0: that number; 1: -1 less it;", CborSentencesTest::numbersAndLess);
        document.holds("3 a text of so many bytes;", CborSentencesTest::textsOfSoMany);
        document.holds("4 an array of so many items;", CborSentencesTest::arraysOfSoMany);
        document.holds("5 a map of so many pairs, texts and items;", CborSentencesTest::mapsOfSoMany);
        document.holds("T 7 with A 20, 21, 22 false, true, null.", CborSentencesTest::words);
    }

    private static void faultsOfHeads(Sentences document) {
        document.holds("FAULTS of an item, the first that is met;", CborSentencesTest::firstThatIsMet);
        document.holds("of one head in this order:", CborSentencesTest::orderOfOneHead);
        document.holds("1 A is 28, 29, 30, or 31 with T 0, 1, 7 (at the head's first byte);", CborSentencesTest::noSuchHead);
        document.holds("2 T 2 or 6, T 7 with another A,", CborSentencesTest::otherTypes);
        document.holds("T other than 3 for a map's key (there);", CborSentencesTest::otherKeys);
        document.holds("6 A is 31 (there);", CborSentencesTest::openLengths);
        document.holds("1 the head's bytes end (at how many bytes there are);", CborSentencesTest::headsThatEnd);
        document.holds("6 the number could stand in a shorter head (at the head's first byte);", CborSentencesTest::longerHeads);
        document.holds("4 T 4, 5 within as many arrays and maps as DEPTH tells (there);", CborSentencesTest::tooDeep);
        document.holds("1 a text's bytes end (at how many there are);", CborSentencesTest::textsThatEnd);
        document.holds("3 they are no UTF-8 (at the first byte of what isn't).", CborSentencesTest::textsThatAreNone);
    }

    private static void otherFaults(Sentences document) {
        document.holds("An item that lacks: 1 at how many bytes there are.", CborSentencesTest::itemsThatLack);
        document.holds("Behind the item: 1 at the first byte.", CborSentencesTest::behindTheItem);
        document.holds("5, if there is none: the JSON is longer than ROOM, at how many bytes there are.", CborSentencesTest::tooLong);
    }

    private static void texts(Sentences document) {
        document.holds("In JSON a text has \\\" \\\\ \\b \\t \\n \\f \\r,", CborSentencesTest::letters);
        document.holds("\\u and four hexadecimal digits (small letters) for other signs below 32,", CborSentencesTest::smallDigits);
        document.holds("all else as it is.", CborSentencesTest::asItIs);
    }

    private static String hex(int value, int bytes) {
        return String.format("%0" + 2 * bytes + "x", value);
    }

    /** The same fault wherever the item stands; the place is told from the item's first byte on. */
    private static void faultAnywhere(String item, int kind, int place) {
        for (String ahead : AHEAD) {
            bench.jsonFault(ahead + item, kind, Bench.unhex(ahead).length + place);
        }
    }

    // ---- items

    private static void firstBytes() {
        for (int first = 0; first < 256; first++) {
            int type = first / 32;
            int info = first % 32;
            String head = hex(first, 1);
            boolean hasNumberBehind = info >= 24 && info <= 27;
            if (info > 27 || type == 2 || type == 6 || type == 7 && (info < 20 || info > 22)) {
                boolean isNone = info >= 28 && (info < 31 || type < 2 || type == 7);
                bench.jsonFault(head, isNone ? 1 : type == 2 || type > 5 ? 2 : 6, 0);
            } else if (hasNumberBehind) {
                bench.jsonFault(head, 1, 1);
            } else if (type < 2) {
                bench.json(head, String.valueOf(type == 0 ? info : -1 - info));
            } else if (type == 3) {
                bench.json(head + "61".repeat(info), '"' + "a".repeat(info) + '"');
            } else if (type == 4) {
                bench.json(head + "00".repeat(info), "[" + list("0", info) + "]");
            } else if (type == 5) {
                bench.json(head + "6000".repeat(info), "{" + list("\"\":0", info) + "}");
            }
        }
    }

    private static String list(String part, int count) {
        return count == 0 ? "" : part + ("," + part).repeat(count - 1);
    }

    private static void numbersItself() {
        for (int number = 0; number < 24; number++) {
            bench.json(hex(number, 1), String.valueOf(number));
            bench.json(hex(0x20 + number, 1), String.valueOf(-1 - number));
        }
    }

    private static void numbersBehind() {
        for (int number = 24; number < 256; number++) {
            bench.json("18" + hex(number, 1), String.valueOf(number));
        }
        bench.json("190100", "256");
        bench.json("190102", "258");
        bench.json("19fffe", "65534");
        bench.json("19ffff", "65535");
        bench.json("1a00010000", "65536");
        bench.json("1a01020304", "16909060");
        bench.json("1a7fffffff", "2147483647");
        bench.json("1a80000000", "2147483648");
        bench.json("1afffffffe", "4294967294");
        bench.json("1affffffff", "4294967295");
        bench.json("1b0000000100000000", "4294967296");
        bench.json("1b0102030405060708", "72623859790382856");
        bench.json("1bfffefdfcfbfaf9f8", "18446460386757245432");
    }

    private static void numbersAndLess() {
        String[] numbers = {"9", "10", "99", "100", "999", "1000", "9223372036854775807", "9223372036854775808",
            "9999999999999999999", "10000000000000000000", "18446744073709551609", "18446744073709551610", "18446744073709551614",
            "18446744073709551615"};
        String[] items = {"09", "0a", "1863", "1864", "1903e7", "1903e8", "1b7fffffffffffffff", "1b8000000000000000",
            "1b8ac7230489e7ffff", "1b8ac7230489e80000", "1bfffffffffffffff9", "1bfffffffffffffffa", "1bfffffffffffffffe",
            "1bffffffffffffffff"};
        String[] less = {"-10", "-11", "-100", "-101", "-1000", "-1001", "-9223372036854775808", "-9223372036854775809",
            "-10000000000000000000", "-10000000000000000001", "-18446744073709551610", "-18446744073709551611",
            "-18446744073709551615", "-18446744073709551616"};
        for (int i = 0; i < numbers.length; i++) {
            bench.json(items[i], numbers[i]);
            bench.json(hex(Integer.parseInt(items[i].substring(0, 2), 16) + 0x20, 1) + items[i].substring(2), less[i]);
        }
        bench.json("00", "0");
        bench.json("20", "-1");
        // Each power of ten, and one less, up to what is.
        String power = "1";
        for (int i = 0; i < 19; i++) {
            decimal(power);
            decimal("9".repeat(i + 1));
            power += "0";
        }
        decimal(power);
    }

    /** There and back. */
    private static void decimal(String number) {
        for (String text : new String[] {number, "-" + number}) {
            TextBridge x = Bench.loaded(Bench.bytes(text));
            x.toCbor();
            x.take();
            bench.due("toJson of " + text, x.toJson(), text.length());
            for (int i = 0; i < text.length(); i++) {
                bench.due("digit " + i + " of " + text, x.out(i), text.charAt(i));
            }
        }
    }

    private static String headOf(int type, int number) {
        int first = type * 32;
        return number < 24 ? hex(first + number, 1) : number < 256 ? hex(first + 24, 1) + hex(number, 1) : hex(first + 25, 1) + hex(number, 2);
    }

    private static void textsOfSoMany() {
        for (int count : new int[] {0, 1, 22, 23, 24, 25, 254, 255, 256, 257, 3996, 3997}) {
            bench.json(headOf(3, count) + "61".repeat(count), '"' + "a".repeat(count) + '"');
            bench.json("82" + headOf(3, Math.min(count, 3990)) + "61".repeat(Math.min(count, 3990)) + "01",
                "[\"" + "a".repeat(Math.min(count, 3990)) + "\",1]");
        }
        // Bytes, not signs.
        bench.json("62 c3a4", "\"\u00c3\u00a4\"");
        bench.jsonFault("61 c3a4", 3, 1);
    }

    private static void arraysOfSoMany() {
        for (int count : new int[] {0, 1, 23, 24, 255, 256, 1999}) {
            String item = headOf(4, count) + "00".repeat(count);
            bench.json(item, "[" + list("0", count) + "]");
            bench.jsonFault(item + "00", 1, item.length() / 2);
        }
    }

    private static void mapsOfSoMany() {
        for (int count : new int[] {0, 1, 23, 24, 255, 256, 799}) {
            String item = headOf(5, count) + "6000".repeat(count);
            bench.json(item, "{" + list("\"\":0", count) + "}");
            bench.jsonFault(item + "6000", 1, item.length() / 2);
        }
        bench.json("a2 6162 01 6161 02", "{\"b\":1,\"a\":2}");
        bench.json("a3 6161 01 6161 01 6161 02", "{\"a\":1,\"a\":1,\"a\":2}");
        bench.json("a1 60 a1 60 80", "{\"\":{\"\":[]}}");
        bench.jsonFault("a1 6161", 1, 3);
        bench.jsonFault("a2 6161 00 6162", 1, 6);
    }

    private static void words() {
        bench.json("f4", "false");
        bench.json("f5", "true");
        bench.json("f6", "null");
        bench.json("84 f6 f5 f4 a1 60 f6", "[null,true,false,{\"\":null}]");
    }

    // ---- faults of heads

    private static void firstThatIsMet() {
        // An item with a fault of each kind, either ahead; of an array that lacks parts, too.
        String[] items = {"1c", "40", "61ff", "8180", "9f", "1800", "5f"};
        int[] kinds = {1, 2, 3, 4, 6, 6, 2};
        int[] places = {0, 0, 1, 1, 0, 0, 0};
        for (int i = 0; i < items.length; i++) {
            for (String later : items) {
                bench.jsonFault(2, 6000, "83 00" + items[i] + later, kinds[i], 2 + places[i]);
                bench.jsonFault(2, 0, "a2 60" + items[i] + "60" + later + "00", kinds[i], 2 + places[i]);
            }
            bench.jsonFault(2, 6000, "9bffffffffffffffff" + items[i], kinds[i], 9 + places[i]);
        }
        // The key ahead of its item.
        bench.jsonFault("a1 61ff 40", 3, 2);
        bench.jsonFault("a1 00 40", 2, 1);
        // The head ahead of what it counts, and the item ahead of what stands behind.
        bench.jsonFault("9801 40", 6, 0);
        bench.jsonFault("9801", 6, 0);
        bench.jsonFault("81 40 00", 2, 1);
    }

    private static void orderOfOneHead() {
        // 1 (A 28 to 31) ahead of 2 and 6.
        bench.jsonFault("5c", 1, 0);
        bench.jsonFault("dd", 1, 0);
        bench.jsonFault("fe", 1, 0);
        bench.jsonFault("ff", 1, 0);
        bench.jsonFault("1f", 1, 0);
        bench.jsonFault("a1 1c", 1, 1);
        bench.jsonFault("a1 1f", 1, 1);
        bench.jsonFault("a1 ff", 1, 1);
        bench.jsonFault("a1 9c", 1, 1);
        // 2 ahead of 6 (A 31), of 1 (the head's bytes end), of 6 (a shorter head), of 4.
        bench.jsonFault("5f", 2, 0);
        bench.jsonFault("df", 2, 0);
        bench.jsonFault("a1 9f", 2, 1);
        bench.jsonFault("a1 bf", 2, 1);
        bench.jsonFault("58", 2, 0);
        bench.jsonFault("d9 00", 2, 0);
        bench.jsonFault("f8", 2, 0);
        bench.jsonFault("fa 00", 2, 0);
        bench.jsonFault("a1 18", 2, 1);
        bench.jsonFault("58 00", 2, 0);
        bench.jsonFault("d8 00", 2, 0);
        bench.jsonFault("f8 14", 2, 0);
        bench.jsonFault("a1 18 00", 2, 1);
        bench.jsonFault(1, 6000, "a1 80", 2, 1);
        bench.jsonFault(1, 6000, "a1 a0", 2, 1);
        // 6 (A 31) ahead of 4, and of what lacks.
        bench.jsonFault(0, 6000, "9f", 6, 0);
        bench.jsonFault(0, 6000, "bf ff", 6, 0);
        bench.jsonFault("7f", 6, 0);
        // 1 (the head's bytes end) ahead of 6 (a shorter head) and of 4.
        bench.jsonFault("19 00", 1, 2);
        bench.jsonFault("1b 00 00 00 00 00 00 00", 1, 8);
        bench.jsonFault(0, 6000, "98", 1, 1);
        bench.jsonFault(0, 6000, "ba 00 00", 1, 3);
        // 6 (a shorter head) ahead of 4, and of 1 (a text's bytes end).
        bench.jsonFault(0, 6000, "98 00", 6, 0);
        bench.jsonFault(0, 6000, "b9 00 ff", 6, 0);
        bench.jsonFault("78 17", 6, 0);
        bench.jsonFault("78 01 ff", 6, 0);
        bench.jsonFault("79 00 ff 61", 6, 0);
        // 4 ahead of an item that lacks.
        bench.jsonFault(0, 6000, "81", 4, 0);
        bench.jsonFault(1, 6000, "81 a1", 4, 1);
        bench.jsonFault(0, 6000, "9b ff ff ff ff ff ff ff ff", 4, 0);
        // 1 (a text's bytes end) ahead of 3.
        bench.jsonFault("62 ff", 1, 2);
        bench.jsonFault("63 c3 28", 1, 3);
        bench.jsonFault("a1 64 80 80 80", 1, 5);
    }

    private static void noSuchHead() {
        for (int type = 0; type < 8; type++) {
            for (int info = 28; info <= 30; info++) {
                faultAnywhere(hex(type * 32 + info, 1), 1, 0);
                bench.jsonFault("a1" + hex(type * 32 + info, 1), 1, 1);
                bench.jsonFault(hex(type * 32 + info, 1) + "00".repeat(20), 1, 0);
            }
        }
        for (String head : new String[] {"1f", "3f", "ff"}) {
            faultAnywhere(head, 1, 0);
            faultAnywhere(head + "00", 1, 0);
            bench.jsonFault("a1" + head, 1, 1);
        }
        // 27 is a head.
        bench.json("1b0000000100000000", "4294967296");
    }

    private static void otherTypes() {
        for (int info = 0; info < 28; info++) {
            for (int type : new int[] {2, 6}) {
                faultAnywhere(hex(type * 32 + info, 1), 2, 0);
                bench.jsonFault(hex(type * 32 + info, 1) + "00".repeat(30), 2, 0);
            }
            if (info < 20 || info > 22) {
                faultAnywhere(hex(7 * 32 + info, 1), 2, 0);
                bench.jsonFault(hex(7 * 32 + info, 1) + "00".repeat(8), 2, 0);
            }
        }
        faultAnywhere("5f", 2, 0);
        faultAnywhere("df", 2, 0);
        // 20 and 22 in a byte behind are no false and null.
        faultAnywhere("f814", 2, 0);
        faultAnywhere("f816", 2, 0);
    }

    private static void otherKeys() {
        for (int type = 0; type < 8; type++) {
            for (int info = 0; info < 28; info++) {
                if (type != 3) {
                    String head = hex(type * 32 + info, 1);
                    bench.jsonFault("a1" + head, 2, 1);
                    bench.jsonFault("a2616100" + head, 2, 4);
                    bench.jsonFault("81a1" + head + "00", 2, 2);
                }
            }
        }
        // A text is a key, and its faults are a text's.
        bench.json("a16000", "{\"\":0}");
        bench.json("a1 7818" + "61".repeat(24) + "00", "{\"" + "a".repeat(24) + "\":0}");
        bench.jsonFault("a17f", 6, 1);
        bench.jsonFault("a178", 1, 2);
        bench.jsonFault("a17800", 6, 1);
        bench.jsonFault("a161", 1, 2);
        bench.jsonFault("a161ff00", 3, 2);
        // The second of a pair is no key.
        bench.json("a2 60 00 60 80", "{\"\":0,\"\":[]}");
    }

    private static void openLengths() {
        for (String head : new String[] {"7f", "9f", "bf"}) {
            faultAnywhere(head, 6, 0);
            faultAnywhere(head + "ff", 6, 0);
            faultAnywhere(head + "6161ff", 6, 0);
        }
        bench.jsonFault("a17f6161ff00", 6, 1);
    }

    private static void headsThatEnd() {
        int[] behind = {1, 2, 4, 8};
        for (int type : new int[] {0, 1, 3, 4, 5}) {
            for (int k = 0; k < 4; k++) {
                for (int there = 0; there < behind[k]; there++) {
                    faultAnywhere(hex(type * 32 + 24 + k, 1) + "ff".repeat(there), 1, 1 + there);
                    faultAnywhere(hex(type * 32 + 24 + k, 1) + "00".repeat(there), 1, 1 + there);
                }
            }
        }
        // At the end of a full TAPE.
        bench.jsonFault("990fa0" + "00".repeat(3996) + "18", 1, 4000);
        bench.jsonFault("990fa0" + "00".repeat(3989) + "1b00000000000000", 1, 4000);
    }

    private static void longerHeads() {
        // The greatest number that the shorter head has, and the least that it has not.
        String[] shorter = {"1800", "1817", "190000", "190017", "190018", "1900ff", "1a00000000", "1a00000017", "1a000000ff", "1a0000ffff",
            "1b0000000000000000", "1b0000000000000017", "1b00000000000000ff", "1b000000000000ffff", "1b00000000ffffffff"};
        for (int type : new int[] {0, 1, 3, 4, 5}) {
            for (String number : shorter) {
                String head = hex(type * 32 + Integer.parseInt(number.substring(0, 2), 16), 1) + number.substring(2);
                faultAnywhere(head, 6, 0);
                faultAnywhere(head + "6161", 6, 0);
            }
        }
        String[] fitting = {"1818", "190100", "1a00010000", "1b0000000100000000"};
        String[] numbers = {"24", "256", "65536", "4294967296"};
        String[] less = {"-25", "-257", "-65537", "-4294967297"};
        for (int i = 0; i < fitting.length; i++) {
            bench.json(fitting[i], numbers[i]);
            bench.json("3" + fitting[i].substring(1), less[i]);
            // Of texts, arrays and maps the head is right, and what it counts lacks.
            for (String type : new String[] {"7", "9", "b"}) {
                bench.jsonFault(type + fitting[i].substring(1), 1, fitting[i].length() / 2);
            }
        }
    }

    private static void tooDeep() {
        for (int depth = 0; depth <= 40; depth++) {
            for (String head : new String[] {"80", "a0", "81", "a1", "9818", "bb0000000100000000"}) {
                bench.jsonFault(depth, 6000, "81".repeat(depth) + head, 4, depth);
                bench.jsonFault(depth, 6000, "a160".repeat(depth) + head, 4, 2 * depth);
            }
            bench.due("a number at DEPTH " + depth, Bench.bounded(Bench.unhex("81".repeat(depth) + "00"), depth, 6000).toJson(), 2 * depth + 1);
            bench.due("a text at DEPTH " + depth, Bench.bounded(Bench.unhex("81".repeat(depth) + "60"), depth, 6000).toJson(), 2 * depth + 2);
            if (depth > 0) {
                String siblings = "81".repeat(depth - 1) + "80";
                bench.due("as many as DEPTH " + depth, Bench.bounded(Bench.unhex(siblings), depth, 6000).toJson(), 2 * depth);
            }
        }
        bench.due("siblings", Bench.bounded(Bench.unhex("84 80 a0 80 a16000"), 2, 6000).toJson(), 17);
        bench.jsonFault(1, 6000, "8200a0", 4, 2);
        bench.jsonFault(2, 6000, "82808181", 4, 3);
        bench.jsonFault(2, 6000, "8281008200", 1, 5);
    }

    private static void textsThatEnd() {
        for (int count : new int[] {1, 2, 23, 24, 255, 256, 3997}) {
            for (int there : new int[] {0, count / 2, count - 1}) {
                String item = headOf(3, count) + "61".repeat(there);
                bench.jsonFault(item, 1, item.length() / 2);
                if (count < 3997) {
                    faultAnywhere(item, 1, item.length() / 2);
                    bench.jsonFault("a1" + item, 1, 1 + item.length() / 2);
                }
            }
        }
        // Lengths where an int or a long goes round.
        for (String length : new String[] {"7a7fffffff", "7a80000000", "7affffffff", "7b0000000100000000", "7b7fffffffffffffff",
            "7b8000000000000000", "7bffffffffffffffff", "7bfffffffffffffff0", "7b0000000100000001", "7affff0000"}) {
            faultAnywhere(length, 1, length.length() / 2);
            faultAnywhere(length + "6161", 1, length.length() / 2 + 2);
            bench.jsonFault("a1" + length + "61", 1, length.length() / 2 + 2);
        }
        bench.jsonFault("790f9e" + "61".repeat(3997), 1, 4000);
    }

    private static void textsThatAreNone() {
        for (int first = 0x80; first < 256; first++) {
            int behind = first < 0xE0 ? 1 : first < 0xF0 ? 2 : 3;
            for (int second = 0; second < 256; second++) {
                for (String tail : new String[] {"80", "bf"}) {
                    sign(hex(first, 1) + hex(second, 1) + tail.repeat(behind - 1), Bench.isSecondOf(first, second));
                }
            }
        }
        for (int b = 0; b < 256; b++) {
            boolean isBehind = b >= 0x80 && b <= 0xBF;
            sign("e282" + hex(b, 1), isBehind);
            sign("f180" + hex(b, 1) + "80", isBehind);
            sign("f18080" + hex(b, 1), isBehind);
        }
        // A sign's bytes beyond the text's end are another item's.
        for (String cut : new String[] {"c3", "e2", "e282", "f0", "f09f", "f09f98"}) {
            int size = cut.length() / 2;
            bench.jsonFault("82" + hex(0x60 + size, 1) + cut + "80", 3, 2);
            bench.jsonFault("82" + hex(0x61 + size, 1) + "61" + cut + "80", 3, 3);
            bench.jsonFault(hex(0x60 + size, 1) + cut, 3, 1);
        }
        bench.jsonFault("6a c3a4 e282ac f09f9880 ff", 3, 10);
        bench.jsonFault("a1 62 61ff 00", 3, 3);
    }

    /** Behind a sign of one byte, at the text's end. */
    private static void sign(String bytes, boolean isOne) {
        int size = bytes.length() / 2;
        TextBridge x = Bench.loaded(Bench.unhex(hex(0x61 + size, 1) + "61" + bytes));
        if (!isOne) {
            bench.jsonFault(x, bytes, 3, 2);
            return;
        }
        bench.due("toJson of " + bytes, x.toJson(), 3 + size);
        for (int i = 0; i < size; i++) {
            bench.due("byte " + i + " of " + bytes, x.out(2 + i), Integer.parseInt(bytes.substring(2 * i, 2 * i + 2), 16));
        }
    }

    // ---- other faults

    private static void itemsThatLack() {
        bench.jsonFault("", 1, 0);
        for (String head : new String[] {"81", "97", "9818", "98ff", "990100", "a1", "b7", "b818", "b90100"}) {
            faultAnywhere(head, 1, head.length() / 2);
        }
        // One part too few, and none.
        for (int count : new int[] {1, 2, 23, 24, 255, 256, 1500}) {
            String array = headOf(4, count) + "00".repeat(count - 1);
            bench.jsonFault(array, 1, array.length() / 2);
            String map = headOf(5, count) + "6000".repeat(count - 1);
            bench.jsonFault(map, 1, map.length() / 2);
            bench.jsonFault(map + "60", 1, map.length() / 2 + 1);
        }
        // Counts where an int or a long goes round.
        for (String count : new String[] {"a7fffffff", "a80000000", "affffffff", "b0000000100000000", "b0000000100000001",
            "b7fffffffffffffff", "b8000000000000000", "b8000000000000001", "bffffffffffffffff"}) {
            int size = (1 + count.length()) / 2;
            bench.jsonFault("9" + count, 1, size);
            bench.jsonFault("9" + count + "00", 1, size + 1);
            bench.jsonFault("b" + count, 1, size);
            bench.jsonFault("b" + count + "60", 1, size + 1);
            bench.jsonFault("b" + count + "6000", 1, size + 2);
            bench.jsonFault("82" + "9" + count + "00", 1, size + 2);
        }
        // A full TAPE.
        bench.jsonFault("990f9e" + "00".repeat(3997), 1, 4000);
        bench.jsonFault("990fa1" + "00".repeat(3997), 1, 4000);
        bench.jsonFault("b907cf" + "6000".repeat(1998) + "60", 1, 4000);
        bench.jsonFault(40, 6000, "81".repeat(40), 1, 40);
    }

    private static void behindTheItem() {
        for (String item : new String[] {"00", "1818", "20", "3b0000000100000000", "60", "6161", "80", "8100", "a0", "a16000", "f4", "f5", "f6"}) {
            for (int b = 0; b < 256; b++) {
                bench.jsonFault(item + hex(b, 1), 1, item.length() / 2);
            }
            bench.jsonFault(item + item, 1, item.length() / 2);
            bench.jsonFault(item + "00".repeat(20), 1, item.length() / 2);
        }
        bench.jsonFault("790f9c" + "61".repeat(3996) + "61", 1, 3999);
        bench.jsonFault("00" + "00".repeat(3999), 1, 1);
    }

    private static void tooLong() {
        String[] items = {"00", "0a", "60", "6161", "6100", "610a", "820102", "a1616101", "f4", "3bffffffffffffffff", "62c3a4", "80"};
        int[] sizes = {1, 2, 2, 3, 8, 4, 5, 7, 5, 21, 4, 2};
        for (int i = 0; i < items.length; i++) {
            byte[] cbor = Bench.unhex(items[i]);
            bench.due("just in ROOM: " + items[i], Bench.bounded(cbor, 20, sizes[i]).toJson(), sizes[i]);
            for (int room = 0; room < sizes[i]; room++) {
                bench.jsonFault(20, room, items[i], 5, cbor.length);
            }
        }
        // If there is none: each other one, however late, goes ahead of it.
        bench.jsonFault(20, 0, "82010200", 1, 3);
        bench.jsonFault(20, 0, "83010240", 2, 3);
        bench.jsonFault(20, 0, "83010261ff", 3, 4);
        bench.jsonFault(1, 0, "83010280", 4, 3);
        bench.jsonFault(20, 0, "8301021800", 6, 3);
        bench.jsonFault(20, 0, "830102", 1, 3);
        // Far beyond every ROOM: the longest JSON that a TAPE can have.
        bench.jsonFault(20, 6000, "790f9d" + "01".repeat(3997), 5, 4000);
        bench.jsonFault(20, 6000, "790f9d" + "01".repeat(3996) + "ff", 3, 3999);
        bench.jsonFault(20, 6000, "990f9d" + "f4".repeat(3996) + "f7", 2, 3999);
        bench.jsonFault(20, 6000, "990f9c" + "f4".repeat(3997), 1, 3999);
    }

    // ---- texts

    private static void letters() {
        String letters = "\"\\btnfr";
        String[] signs = {"22", "5c", "08", "09", "0a", "0c", "0d"};
        for (int i = 0; i < signs.length; i++) {
            bench.json("61" + signs[i], "\"\\" + letters.charAt(i) + "\"");
            bench.json("a1 63 61" + signs[i] + "62 00", "{\"a\\" + letters.charAt(i) + "b\":0}");
        }
    }

    private static void smallDigits() {
        for (int sign = 0; sign < 32; sign++) {
            if (sign != 8 && sign != 9 && sign != 10 && sign != 12 && sign != 13) {
                String want = "\\u00" + (char) ('0' + sign / 16) + "0123456789abcdef".charAt(sign % 16);
                bench.json("61" + hex(sign, 1), "\"" + want + "\"");
                bench.json("62" + hex(sign, 1) + "30", "\"" + want + "0\"");
            }
        }
        bench.json("6120", "\" \"");
    }

    private static void asItIs() {
        for (int sign = 32; sign < 128; sign++) {
            if (sign != '"' && sign != '\\') {
                bench.json("61" + hex(sign, 1), "\"" + (char) sign + "\"");
            }
        }
        bench.json("612f", "\"/\"");
        bench.json("617f", "\"\u007f\"");
        bench.json("62c280", "\"\u00c2\u0080\"");
        bench.json("62c2a0", "\"\u00c2\u00a0\"");
        bench.json("63e280a8", "\"\u00e2\u0080\u00a8\"");
        bench.json("63efbfbf", "\"\u00ef\u00bf\u00bf\"");
        bench.json("64f0908080", "\"\u00f0\u0090\u0080\u0080\"");
        bench.json("64f48fbfbf", "\"\u00f4\u008f\u00bf\u00bf\"");
        bench.json("66 5c7530303030", "\"\\\\u0000\"");
    }
}
