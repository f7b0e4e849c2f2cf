/** Promise 5: JSON texts and the CBOR, or the fault, that is due. */
public final class ToCborTest {
    private static final Bench bench = new Bench();

    public static void main(String[] args) {
        words();
        numbers();
        numbersBeyond();
        numbersWithParts();
        numbersThatAreNone();
        numbersAtOnePlace();
        strings();
        escapes();
        malformedStrings();
        signsThatAreNone();
        halvesOfPairs();
        arrays();
        maps();
        malformed();
        depth();
        room();
        bench.finish("ToCborTest");
    }

    private static void words() {
        bench.cbor("false", "f4");
        bench.cbor("true", "f5");
        bench.cbor("null", "f6");
        bench.cbor(" \t\r\nnull\n\r\t ", "f6");
        bench.cborFault("fals", 1, 4);
        bench.cborFault("falsE", 1, 4);
        bench.cborFault("tru]", 1, 3);
        bench.cborFault("n", 1, 1);
        bench.cborFault("True", 1, 0);
        bench.cborFault("truefalse", 1, 4);
        bench.cborFault("true false", 1, 5);
        bench.cborFault("\u000btrue", 1, 0);
        bench.cborFault("\u00a0true", 1, 0);
    }

    private static void numbers() {
        bench.cbor("0", "00");
        bench.cbor("-0", "00");
        bench.cbor("23", "17");
        bench.cbor("24", "1818");
        bench.cbor("255", "18ff");
        bench.cbor("256", "190100");
        bench.cbor("65535", "19ffff");
        bench.cbor("65536", "1a00010000");
        bench.cbor("4294967295", "1affffffff");
        bench.cbor("4294967296", "1b0000000100000000");
        bench.cbor("9223372036854775807", "1b7fffffffffffffff");
        bench.cbor("9223372036854775808", "1b8000000000000000");
        bench.cbor("18446744073709551615", "1bffffffffffffffff");
        bench.cbor("-1", "20");
        bench.cbor("-24", "37");
        bench.cbor("-25", "3818");
        bench.cbor("-256", "38ff");
        bench.cbor("-257", "390100");
        bench.cbor("-65536", "39ffff");
        bench.cbor("-65537", "3a00010000");
        bench.cbor("-4294967296", "3affffffff");
        bench.cbor("-4294967297", "3b0000000100000000");
        bench.cbor("-9223372036854775808", "3b7fffffffffffffff");
        bench.cbor("-9223372036854775809", "3b8000000000000000");
        bench.cbor("-18446744073709551615", "3bfffffffffffffffe");
        bench.cbor("-18446744073709551616", "3bffffffffffffffff");
        bench.cborFault("-", 1, 1);
        bench.cborFault("--1", 1, 1);
        bench.cborFault("+1", 1, 0);
        bench.cborFault("01", 1, 1);
        bench.cborFault("-01", 1, 2);
        bench.cborFault("00", 1, 1);
        bench.cborFault("1 2", 1, 2);
        bench.cborFault("12a", 1, 2);
        bench.cborFault("- 1", 1, 1);
        bench.cborFault(".5", 1, 0);
        bench.cborFault("-.5", 1, 1);
        bench.cborFault("0x10", 1, 1);
    }

    private static void numbersBeyond() {
        bench.cborFault("18446744073709551616", 3, 0);
        bench.cborFault("18446744073709551620", 3, 0);
        bench.cborFault("20000000000000000000", 3, 0);
        bench.cborFault("99999999999999999999", 3, 0);
        bench.cborFault("92233720368547758070", 3, 0);
        bench.cborFault("100000000000000000000", 3, 0);
        bench.cborFault("184467440737095516150", 3, 0);
        bench.cborFault("-18446744073709551617", 3, 0);
        bench.cborFault("-184467440737095516160", 3, 0);
        bench.cborFault("-20000000000000000000", 3, 0);
        bench.cborFault(" [7, -99999999999999999999999, x", 3, 5);
        bench.cborFault("9".repeat(4000), 3, 0);
        bench.cborFault("18446744073709551616x", 3, 0);
        bench.cborFault("18446744073709551615x", 1, 20);
    }

    private static void numbersWithParts() {
        bench.cborFault("1.0", 3, 0);
        bench.cborFault("-0.0", 3, 0);
        bench.cborFault("0e0", 3, 0);
        bench.cborFault("1E+2", 3, 0);
        bench.cborFault("1e-2", 3, 0);
        bench.cborFault("12.50e10", 3, 0);
        bench.cborFault("[1, -3.5]", 3, 4);
        bench.cborFault("{\"a\":1e5", 3, 5);
        bench.cborFault("1.", 1, 2);
        bench.cborFault("1.x", 1, 2);
        bench.cborFault("1.e5", 1, 2);
        bench.cborFault("1.-5", 1, 2);
        bench.cborFault("1e", 1, 2);
        bench.cborFault("1ex", 1, 2);
        bench.cborFault("1e+", 1, 3);
        bench.cborFault("1e+-1", 1, 3);
        bench.cborFault("1E-]", 1, 3);
        bench.cborFault("0.", 1, 2);
        bench.cborFault("-0e", 1, 3);
        // A number that is one, and what it can't go on with: the first along the text is the number.
        bench.cborFault("1.5.5", 3, 0);
        bench.cborFault("1.5x", 3, 0);
        bench.cborFault("1e5.5", 3, 0);
        bench.cborFault("1e5e5", 3, 0);
        bench.cborFault("1.5e5-", 3, 0);
        bench.cborFault("[1.5\u0000", 3, 1);
        bench.cborFault("1." + "0".repeat(3998), 3, 0);
    }

    private static void numbersThatAreNone() {
        bench.cborFault("1.1e" + "\u0000".repeat(18), 1, 4);
        bench.cborFault("1.5e", 1, 4);
        bench.cborFault("1.5E", 1, 4);
        bench.cborFault("1.5e+", 1, 5);
        bench.cborFault("1.5e+x", 1, 5);
        bench.cborFault("-0.25E-,1", 1, 7);
        bench.cborFault("1.5e.5", 1, 4);
        bench.cborFault("1.5e 5", 1, 4);
        bench.cborFault("[1.50e]", 1, 6);
        bench.cborFault("{\"a\":0.0ee", 1, 9);
        bench.cborFault("18446744073709551616.", 1, 21);
        bench.cborFault("18446744073709551616.]", 1, 21);
        bench.cborFault("18446744073709551616e", 1, 21);
        bench.cborFault("-18446744073709551617E+\"", 1, 23);
        bench.cborFault("18446744073709551616.5e-", 1, 24);
        bench.cborFault("9".repeat(3999) + ".", 1, 4000);
        bench.cborFault("18446744073709551616.5", 3, 0);
        bench.cborFault("18446744073709551616e-1", 3, 0);
        bench.cborFault("1." + "0".repeat(3997) + "e", 1, 4000);
        // The first along the text is the number that is none, not what stands behind.
        bench.cborFault("[1.5e,2.5]", 1, 5);
        bench.cborFault("[1.5,2.5e]", 3, 1);
    }

    private static void numbersAtOnePlace() {
        // Of two at one place the least one.
        bench.cborFault("[1 2.5]", 1, 3);
        bench.cborFault("{1.5:2}", 1, 1);
    }

    private static void strings() {
        bench.cbor("\"\"", "60");
        bench.cbor("\"a\"", "6161");
        bench.cbor("\"/ \u007f\"", "632f207f");
        bench.cbor(Bench.utf8("\"\u00fc\u6c34\ud800\udd51\""), "69 c3bc e6b0b4 f0908591");
        bench.cbor(Bench.utf8("\"\u0080\u07ff\u0800\ud7ff\ue000\uffff\ud800\udc00\udbff\udfff\""),
            "78 18 c280 dfbf e0a080 ed9fbf ee8080 efbfbf f0908080 f48fbfbf");
        bench.cbor('"' + "a".repeat(23) + '"', "77" + "61".repeat(23));
        bench.cbor('"' + "a".repeat(24) + '"', "7818" + "61".repeat(24));
        bench.cbor('"' + "a".repeat(255) + '"', "78ff" + "61".repeat(255));
        bench.cbor('"' + "a".repeat(256) + '"', "790100" + "61".repeat(256));
        bench.cbor('"' + "a".repeat(3997) + '"', "790f9d" + "61".repeat(3997));
    }

    private static void escapes() {
        bench.cbor("\"\\\"\\\\\\/\\b\\f\\n\\r\\t\"", "68 22 5c 2f 08 0c 0a 0d 09");
        bench.cbor("\"\\u0000\"", "6100");
        bench.cbor("\"\\u007f\\u0080\\u07FF\\u0800\\uFfFf\"", "6b 7f c280 dfbf e0a080 efbfbf");
        bench.cbor("\"\\uabcd\\uABCD\\u6789\"", "69 eaaf8d eaaf8d e69e89");
        bench.cbor("\"\\ud7ff\\ue000\"", "66 ed9fbf ee8080");
        bench.cbor("\"\\ud800\\udc00\"", "64 f0908080");
        bench.cbor("\"\\uDBFF\\uDFFF\"", "64 f48fbfbf");
        bench.cbor("\"x\\ud834\\udd1ey\"", "66 78 f09d849e 79");
        bench.cbor("\"\\u00e4\\\\u00e4\"", "68 c3a4 5c 75 30 30 65 34");
        bench.cbor("{\"\\u0061\":\"\\u0022\"}", "a1 6161 6122");
    }

    private static void malformedStrings() {
        bench.cborFault("\"", 1, 1);
        bench.cborFault("\"abc", 1, 4);
        bench.cborFault("\"a\nb\"", 1, 2);
        bench.cborFault("\"\u001f\"", 1, 1);
        bench.cborFault("\"\u0000\"", 1, 1);
        bench.cborFault("\"\\", 1, 2);
        bench.cborFault("\"\\x\"", 1, 2);
        bench.cborFault("\"\\'\"", 1, 2);
        bench.cborFault("\"\\U0041\"", 1, 2);
        bench.cborFault("\"\\u", 1, 3);
        bench.cborFault("\"\\u12", 1, 5);
        bench.cborFault("\"\\u123\"", 1, 6);
        bench.cborFault("\"\\u12g4\"", 1, 5);
        bench.cborFault("\"\\u+123\"", 1, 3);
        bench.cborFault("\"\\udc0x\"", 1, 6);
        bench.cborFault("\"\\ud8", 1, 5);
        bench.cborFault("\"\\\u00e4\"", 1, 2);
        bench.cborFault("\"a\" \"b\"", 1, 4);
        bench.cborFault("'a'", 1, 0);
    }

    private static void signsThatAreNone() {
        bench.cborFault("\"\u0080\"", 2, 1);
        bench.cborFault("\"a\u00bf\"", 2, 2);
        bench.cborFault("\"\u00c0\u0080\"", 2, 1);
        bench.cborFault("\"\u00c1\u00bf\"", 2, 1);
        bench.cborFault("\"\u00c2\"", 2, 1);
        bench.cborFault("\"\u00c3\u00bf\u00c3", 2, 3);
        bench.cborFault("\"\u00c2A\"", 2, 1);
        bench.cborFault("\"\u00c2\u00c0\"", 2, 1);
        bench.cborFault("\"\u00e0\u009f\u00bf\"", 2, 1);
        bench.cborFault("\"ab\u00e2\u0082\"", 2, 3);
        bench.cborFault("\"\u00e2\u0082", 2, 1);
        bench.cborFault("\"\u00ed\u00a0\u0080\"", 2, 1);
        bench.cborFault("\"\u00ed\u00bf\u00bf\"", 2, 1);
        bench.cborFault("\"\u00f0\u008f\u00bf\u00bf\"", 2, 1);
        bench.cborFault("\"\u00f0\u0090\u0080A\"", 2, 1);
        bench.cborFault("\"\u00f4\u0090\u0080\u0080\"", 2, 1);
        bench.cborFault("\"\u00f5\u0080\u0080\u0080\"", 2, 1);
        bench.cborFault("\"\u00f8\u0088\u0080\u0080\u0080\"", 2, 1);
        bench.cborFault("\"\u00fe\"", 2, 1);
        bench.cborFault("\"\u00ff\"", 2, 1);
        bench.cborFault("{\"\u00ff\":1}", 2, 2);
        // What stands behind in the same string isn't looked at.
        bench.cborFault("\"\u00ff\n", 2, 1);
        // A fault ahead of it goes first.
        bench.cborFault("\"\n\u00ff\"", 1, 1);
        bench.cborFault("[\u00c3\u00a4]", 1, 1);
        bench.cborFault("\u00ef\u00bb\u00bf1", 1, 0);
        bench.cborFault("1\u0080", 1, 1);
    }

    private static void halvesOfPairs() {
        bench.cborFault("\"\\ud800\"", 2, 1);
        bench.cborFault("\"a\\udbff b\"", 2, 2);
        bench.cborFault("\"\\udc00\"", 2, 1);
        bench.cborFault("\"\\udfff\\ud800\"", 2, 1);
        bench.cborFault("\"\\ud800\\ud800\\udc00\"", 2, 1);
        bench.cborFault("\"\\ud800\\udc00\\udc00\"", 2, 13);
        bench.cborFault("\"\\ud800 \\udc00\"", 2, 1);
        bench.cborFault("\"\\ud800\\n\"", 2, 1);
        bench.cborFault("\"\\ud800\\ue000\"", 2, 1);
        bench.cborFault("\"\\ud800\\u0041\"", 2, 1);
        bench.cborFault("\"\\ud800\u00ed\u00b0\u0080\"", 2, 1);
        bench.cborFault("\"\\ud800\\Udc00\"", 2, 1);
        // What stands behind in the same string isn't looked at.
        bench.cborFault("\"\\ud800", 2, 1);
        bench.cborFault("\"\\ud800\\", 2, 1);
        bench.cborFault("\"\\ud800\\udc0", 2, 1);
        bench.cborFault("\"\\ud800\\udc0x\"", 2, 1);
        bench.cborFault("\"\\ud800\n\"", 2, 1);
    }

    private static void arrays() {
        bench.cbor("[]", "80");
        bench.cbor("[ ]", "80");
        bench.cbor(" [ 1 ,\t2 , [ ] ] ", "83010280");
        bench.cbor("[[1,2],[3,[4]],\"a\",null]", "84 820102 82038104 6161 f6");
        bench.cbor(zeros(23), "97" + "00".repeat(23));
        bench.cbor(zeros(24), "9818" + "00".repeat(24));
        bench.cbor(zeros(255), "98ff" + "00".repeat(255));
        bench.cbor(zeros(256), "990100" + "00".repeat(256));
        bench.cbor(zeros(1999), "9907cf" + "00".repeat(1999));
        bench.cbor("[" + zeros(24) + "," + zeros(300) + ",1]", "83 9818" + "00".repeat(24) + "99012c" + "00".repeat(300) + "01");
        bench.cborFault("[", 1, 1);
        bench.cborFault("[1", 1, 2);
        bench.cborFault("[1,", 1, 3);
        bench.cborFault("[1,]", 1, 3);
        bench.cborFault("[,1]", 1, 1);
        bench.cborFault("[1,,2]", 1, 3);
        bench.cborFault("[1}", 1, 2);
        bench.cborFault("[}", 1, 1);
        bench.cborFault("[1:2]", 1, 2);
        bench.cborFault("]", 1, 0);
        bench.cborFault("[]]", 1, 2);
        bench.cborFault("[] []", 1, 3);
        bench.cborFault("[1 [", 1, 3);
    }

    private static String zeros(int count) {
        return "[0" + ",0".repeat(count - 1) + "]";
    }

    private static void maps() {
        bench.cbor("{}", "a0");
        bench.cbor("{\n}", "a0");
        bench.cbor(" { \"a\" : 1 , \"b\" : { } } ", "a2 6161 01 6162 a0");
        bench.cbor("{\"b\":1,\"a\":2,\"b\":3}", "a3 6162 01 6161 02 6162 03");
        bench.cbor("{\"\":[{\"\":0}]}", "a1 60 81 a1 60 00");
        bench.cbor("{" + "\"a\":0,".repeat(23) + "\"b\":0}", "b818" + "616100".repeat(23) + "616200");
        bench.cbor("{" + "\"a\":0,".repeat(255) + "\"b\":0}", "b90100" + "616100".repeat(255) + "616200");
        bench.cborFault("{", 1, 1);
        bench.cborFault("{]", 1, 1);
        bench.cborFault("{1:2}", 1, 1);
        bench.cborFault("{,}", 1, 1);
        bench.cborFault("{\"a\"", 1, 4);
        bench.cborFault("{\"a\"}", 1, 4);
        bench.cborFault("{\"a\",1}", 1, 4);
        bench.cborFault("{\"a\" 1}", 1, 5);
        bench.cborFault("{\"a\":", 1, 5);
        bench.cborFault("{\"a\":}", 1, 5);
        bench.cborFault("{\"a\":1", 1, 6);
        bench.cborFault("{\"a\":1]", 1, 6);
        bench.cborFault("{\"a\":1,", 1, 7);
        bench.cborFault("{\"a\":1,}", 1, 7);
        bench.cborFault("{\"a\":1,2", 1, 7);
        bench.cborFault("{\"a\"::1}", 1, 5);
        bench.cborFault("{null:1}", 1, 1);
        bench.cborFault("{[", 1, 1);
    }

    private static void malformed() {
        bench.cborFault("", 1, 0);
        bench.cborFault("  ", 1, 2);
        bench.cborFault("1\u0000", 1, 1);
        bench.cborFault(":", 1, 0);
        bench.cborFault("//", 1, 0);
        bench.cborFault(" ".repeat(4000), 1, 4000);
        bench.cborFault("NaN", 1, 0);
        // The first along the text.
        bench.cborFault("[1.5,\"\u00ff\"", 3, 1);
        bench.cborFault("[\"\u00ff\",1.5", 2, 2);
        bench.cborFault("[1 ,\"\\udc00\",1.5", 2, 5);
    }

    private static void depth() {
        depthFault(0, "[]", 4, 0);
        depthFault(0, " {}", 4, 1);
        depthFault(0, "{", 4, 0);
        depthFault(0, "1 [", 1, 2);
        depthFault(1, "[[]]", 4, 1);
        depthFault(1, "[1,{", 4, 3);
        depthFault(1, "{\"a\":[", 4, 5);
        depthFault(1, "[1[", 1, 2);
        depthFault(1, "{[", 1, 1);
        depthFault(2, "[[],[],[[", 4, 8);
        depthFault(2, "[[1.5,[[", 3, 2);
        TextBridge x = Bench.loaded(Bench.bytes("[[],{\"a\":1},[]]"));
        x.bounds(2, 100);
        bench.due("siblings at the limit", x.toCbor(), 7);
    }

    private static void depthFault(int depth, String json, int kind, int place) {
        TextBridge x = Bench.loaded(Bench.bytes(json));
        x.bounds(depth, 4000);
        bench.cborFault(x, json + " at DEPTH " + depth, kind, place);
    }

    private static void room() {
        roomFault(4, " [1,2,3,4] ", 5, 11);
        roomFault(0, "0", 5, 1);
        roomFault(0, "0,", 1, 1);
        roomFault(0, "[[1.5", 3, 2);
        roomFault(1, "\"a\"", 5, 3);
        roomFault(0, "", 1, 0);
        TextBridge x = Bench.loaded(Bench.bytes("[1,2,3,4]"));
        x.bounds(1, 5);
        bench.due("just in ROOM", x.toCbor(), 5);
        TextBridge y = Bench.loaded(Bench.bytes('"' + "a".repeat(3998) + '"'));
        y.bounds(1, 4001);
        bench.due("4001 in 4001", y.toCbor(), 4001);
        bench.due("4001 are too many to take", y.take(), -1);
        bench.due("the TAPE stays", y.end(4000), 4000);
    }

    private static void roomFault(int room, String json, int kind, int place) {
        TextBridge x = Bench.loaded(Bench.bytes(json));
        x.bounds(20, room);
        bench.cborFault(x, json + " at ROOM " + room, kind, place);
    }
}
