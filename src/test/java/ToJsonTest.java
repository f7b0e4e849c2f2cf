/** Promise 6: items of CBOR and the JSON, or the fault, that is due. */
public final class ToJsonTest {
    private static final Bench bench = new Bench();

    public static void main(String[] args) {
        words();
        numbers();
        texts();
        arraysAndMaps();
        firstBytes();
        orderWithinOneHead();
        headsThatEnd();
        headsThatCouldBeShorter();
        textsThatEnd();
        textsThatAreNone();
        itemsThatLack();
        behindTheItem();
        depth();
        room();
        bench.finish("ToJsonTest");
    }

    private static void words() {
        bench.json("f4", "false");
        bench.json("f5", "true");
        bench.json("f6", "null");
        bench.json("83f4f5f6", "[false,true,null]");
    }

    private static void numbers() {
        bench.json("00", "0");
        bench.json("09", "9");
        bench.json("0a", "10");
        bench.json("17", "23");
        bench.json("1818", "24");
        bench.json("1863", "99");
        bench.json("1864", "100");
        bench.json("18ff", "255");
        bench.json("190100", "256");
        bench.json("1903e8", "1000");
        bench.json("19ffff", "65535");
        bench.json("1a00010000", "65536");
        bench.json("1affffffff", "4294967295");
        bench.json("1b0000000100000000", "4294967296");
        bench.json("1b000000e8d4a51000", "1000000000000");
        bench.json("1b7fffffffffffffff", "9223372036854775807");
        bench.json("1b8000000000000000", "9223372036854775808");
        bench.json("1b8ac7230489e7ffff", "9999999999999999999");
        bench.json("1b8ac7230489e80000", "10000000000000000000");
        bench.json("1bffffffffffffffff", "18446744073709551615");
        bench.json("20", "-1");
        bench.json("28", "-9");
        bench.json("29", "-10");
        bench.json("37", "-24");
        bench.json("3818", "-25");
        bench.json("3863", "-100");
        bench.json("38ff", "-256");
        bench.json("3903e7", "-1000");
        bench.json("3affffffff", "-4294967296");
        bench.json("3b7fffffffffffffff", "-9223372036854775808");
        bench.json("3b8000000000000000", "-9223372036854775809");
        bench.json("3b8ac7230489e7ffff", "-10000000000000000000");
        bench.json("3bfffffffffffffffe", "-18446744073709551615");
        bench.json("3bffffffffffffffff", "-18446744073709551616");
    }

    private static void texts() {
        bench.json("60", "\"\"");
        bench.json("6161", "\"a\"");
        bench.json("68 22 5c 2f 08 09 0a 0c 0d", "\"\\\"\\\\/\\b\\t\\n\\f\\r\"");
        bench.json("67 00 01 07 0b 0e 1a 1f", "\"\\u0000\\u0001\\u0007\\u000b\\u000e\\u001a\\u001f\"");
        bench.json("63 20 7e 7f", "\" ~\u007f\"");
        bench.json("7818 c280 dfbf e0a080 ed9fbf ee8080 efbfbf f0908080 f48fbfbf",
            "\"\u00c2\u0080\u00df\u00bf\u00e0\u00a0\u0080\u00ed\u009f\u00bf\u00ee\u0080\u0080\u00ef\u00bf\u00bf"
                + "\u00f0\u0090\u0080\u0080\u00f4\u008f\u00bf\u00bf\"");
        bench.json("77" + "61".repeat(23), '"' + "a".repeat(23) + '"');
        bench.json("78ff" + "61".repeat(255), '"' + "a".repeat(255) + '"');
        bench.json("790100" + "61".repeat(256), '"' + "a".repeat(256) + '"');
        bench.json("790f9d" + "61".repeat(3997), '"' + "a".repeat(3997) + '"');
    }

    private static void arraysAndMaps() {
        bench.json("80", "[]");
        bench.json("a0", "{}");
        bench.json("84 820102 82038104 6161 f6", "[[1,2],[3,[4]],\"a\",null]");
        bench.json("a3 6162 01 6161 02 6162 03", "{\"b\":1,\"a\":2,\"b\":3}");
        bench.json("a1 60 81 a1 610a a0", "{\"\":[{\"\\n\":{}}]}");
        bench.json("9818" + "00".repeat(24), "[0" + ",0".repeat(23) + "]");
        bench.json("990100" + "20".repeat(256), "[-1" + ",-1".repeat(255) + "]");
        bench.json("b818" + "6161f6".repeat(24), "{\"a\":null" + ",\"a\":null".repeat(23) + "}");
    }

    /** Every first byte, alone and as the second of two items and as a map's key. */
    private static void firstBytes() {
        for (int first = 0; first < 256; first++) {
            int type = first >> 5;
            int info = first & 31;
            String head = Bench.hex(new byte[] {(byte) first});
            int kind = 0;
            if (info >= 28 && info <= 30 || info == 31 && (type == 0 || type == 1 || type == 7)) {
                kind = 1;
            } else if (type == 2 || type == 6 || type == 7 && info != 20 && info != 21 && info != 22) {
                kind = 2;
            } else if (info == 31) {
                kind = 6;
            }
            if (kind != 0) {
                bench.jsonFault(head, kind, 0);
                bench.jsonFault("8300" + head, kind, 2);
                bench.jsonFault("a16161" + head, kind, 3);
            }
            if (kind != 1 && type != 3) {
                bench.jsonFault("a1" + head, 2, 1);
            }
            if (kind == 0 && info >= 24) {
                bench.jsonFault("8200" + head, 1, 3);
            }
        }
    }

    private static void orderWithinOneHead() {
        bench.jsonFault("5f", 2, 0);
        bench.jsonFault("df", 2, 0);
        bench.jsonFault("5c", 1, 0);
        bench.jsonFault("dd", 1, 0);
        bench.jsonFault("a11c", 1, 1);
        bench.jsonFault("a11f", 1, 1);
        bench.jsonFault("a19f", 2, 1);
        bench.jsonFault("a17f", 6, 1);
        bench.jsonFault("a118", 2, 1);
        bench.jsonFault("a11800", 2, 1);
        bench.jsonFault("a1780161", 6, 1);
        bench.jsonFault("f814", 2, 0);
        bench.jsonFault("f8", 2, 0);
        bench.jsonFault("fb0000000000000000", 2, 0);
        bench.jsonFault("f7", 2, 0);
        bench.jsonFault("ff", 1, 0);
        bench.jsonFault("a1a0", 2, 1);
        bench.jsonFault("7803ff", 6, 0);
    }

    private static void headsThatEnd() {
        bench.jsonFault("18", 1, 1);
        bench.jsonFault("19", 1, 1);
        bench.jsonFault("1900", 1, 2);
        bench.jsonFault("1a", 1, 1);
        bench.jsonFault("1a000000", 1, 4);
        bench.jsonFault("1b00000000000000", 1, 8);
        bench.jsonFault("38", 1, 1);
        bench.jsonFault("78", 1, 1);
        bench.jsonFault("9a0000", 1, 3);
        bench.jsonFault("bb", 1, 1);
        bench.jsonFault("820119", 1, 3);
    }

    private static void headsThatCouldBeShorter() {
        String[] heads = {"1800", "1817", "190000", "1900ff", "1a00000000", "1a0000ffff", "1b0000000000000000",
            "1b00000000ffffffff", "3800", "3817", "3900ff", "3a0000ffff", "3b00000000ffffffff", "7800", "7817",
            "7900ff", "9800", "9817", "b800", "9b00000000ffffffff"};
        for (String head : heads) {
            bench.jsonFault(head, 6, 0);
            bench.jsonFault("8200" + head, 6, 2);
        }
        bench.jsonFault("a16161b800", 6, 3);
    }

    private static void textsThatEnd() {
        bench.jsonFault("61", 1, 1);
        bench.jsonFault("636161", 1, 3);
        bench.jsonFault("63ff", 1, 2);
        bench.jsonFault("7818" + "61".repeat(23), 1, 25);
        bench.jsonFault("7a0001000061", 1, 6);
        bench.jsonFault("7b000000010000000061", 1, 10);
        bench.jsonFault("7bffffffffffffffff61", 1, 10);
        bench.jsonFault("7b800000000000000061", 1, 10);
        bench.jsonFault("7a8000000061", 1, 6);
        bench.jsonFault("7affffffff61", 1, 6);
        bench.jsonFault("8264616161", 1, 5);
        bench.jsonFault("a162", 1, 2);
    }

    private static void textsThatAreNone() {
        bench.jsonFault("6180", 3, 1);
        bench.jsonFault("6261ff", 3, 2);
        bench.jsonFault("62c080", 3, 1);
        bench.jsonFault("61c3", 3, 1);
        bench.jsonFault("8261c3bf", 3, 2);
        bench.jsonFault("6361e282", 3, 2);
        bench.jsonFault("62e28282", 3, 1);
        bench.jsonFault("63e28228", 3, 1);
        bench.jsonFault("63e09fbf", 3, 1);
        bench.jsonFault("63eda080", 3, 1);
        bench.jsonFault("63edbfbf", 3, 1);
        bench.jsonFault("64f08fbfbf", 3, 1);
        bench.jsonFault("64f4908080", 3, 1);
        bench.jsonFault("64f5808080", 3, 1);
        bench.jsonFault("6441f09080", 3, 2);
        bench.jsonFault("a16161" + "62c328", 3, 4);
        bench.jsonFault("a161ff00", 3, 2);
        bench.jsonFault("65c3a4c3a4c3", 3, 5);
    }

    private static void itemsThatLack() {
        bench.jsonFault("", 1, 0);
        bench.jsonFault("81", 1, 1);
        bench.jsonFault("8300f6", 1, 3);
        bench.jsonFault("a1", 1, 1);
        bench.jsonFault("a16161", 1, 3);
        bench.jsonFault("a2616100", 1, 4);
        bench.jsonFault("9bffffffffffffffff", 1, 9);
        bench.jsonFault("9bffffffffffffffff0000", 1, 11);
        bench.jsonFault("9b8000000000000000", 1, 9);
        bench.jsonFault("9a8000000000", 1, 6);
        bench.jsonFault("bbffffffffffffffff616100", 1, 12);
        bench.jsonFault("9bffffffffffffffff00ff", 1, 10);
        bench.jsonFault("990fa0" + "00".repeat(3997), 1, 4000);
        bench.jsonFault("9b00000001000000000040", 2, 10);
        bench.jsonFault("b9100061611c", 1, 5);
    }

    private static void behindTheItem() {
        bench.jsonFault("0000", 1, 1);
        bench.jsonFault("8000", 1, 1);
        bench.jsonFault("f6ff", 1, 1);
        bench.jsonFault("616140", 1, 2);
        bench.jsonFault("a0a0", 1, 1);
        bench.jsonFault("8281000000", 1, 4);
    }

    private static void depth() {
        depthFault(0, "80", 4, 0);
        depthFault(0, "a0", 4, 0);
        depthFault(0, "98", 1, 1);
        depthFault(0, "9800", 6, 0);
        depthFault(0, "9f", 6, 0);
        depthFault(0, "9b0000000100000000", 4, 0);
        depthFault(1, "8180", 4, 1);
        depthFault(1, "8200a0", 4, 2);
        depthFault(1, "a1616180", 4, 3);
        depthFault(1, "a180", 2, 1);
        depthFault(2, "82808181", 4, 3);
        TextBridge x = Bench.loaded(Bench.unhex("83 80 a0 a1616100"));
        x.bounds(2, 100);
        bench.due("siblings at the limit", x.toJson(), 15);
        TextBridge y = Bench.loaded(Bench.unhex("6161"));
        y.bounds(0, 100);
        bench.due("a text at DEPTH 0", y.toJson(), 3);
    }

    private static void depthFault(int depth, String cbor, int kind, int place) {
        TextBridge x = Bench.loaded(Bench.unhex(cbor));
        x.bounds(depth, 4000);
        bench.jsonFault(x, cbor + " at DEPTH " + depth, kind, place);
    }

    private static void room() {
        roomFault(0, "00", 5, 1);
        roomFault(0, "", 1, 0);
        roomFault(0, "0000", 1, 1);
        roomFault(3, "f6", 5, 1);
        roomFault(7, "6101", 5, 2);
        roomFault(4, "820102", 5, 3);
        roomFault(2, "826161ff", 1, 3);
        TextBridge x = Bench.loaded(Bench.unhex("820102"));
        x.bounds(1, 5);
        bench.due("just in ROOM", x.toJson(), 5);
        TextBridge y = Bench.loaded(Bench.unhex("990f9d" + "f4".repeat(3997)));
        y.bounds(1, 6000);
        bench.jsonFault(y, "a JSON of 23983", 5, 4000);
        TextBridge z = Bench.loaded(Bench.unhex("990f9d" + "f4".repeat(3996) + "f7"));
        z.bounds(1, 6000);
        bench.jsonFault(z, "a fault behind ROOM", 2, 3999);
    }

    private static void roomFault(int room, String cbor, int kind, int place) {
        TextBridge x = Bench.loaded(Bench.unhex(cbor));
        x.bounds(20, room);
        bench.jsonFault(x, cbor + " at ROOM " + room, kind, place);
    }
}
