import java.io.IOException;
import java.util.Arrays;

/** The sentences of promises 1 to 10, and the edges that each names. */
public final class PromiseSentencesTest {
    private static final int NONE = TextBridge.NONE;
    private static final int LEAST = Integer.MIN_VALUE;
    private static final int MOST = Integer.MAX_VALUE;
    private static final Bench bench = new Bench();

    public static void main(String[] args) throws IOException {
        Sentences document = new Sentences(bench);
        document.section("An object is used", "public final class");
        document.holds("An object is used for at most 512 calls after it has been made; what later calls answer is free.",
            PromiseSentencesTest::lastOfAllCalls);
        document.section("public static final int NONE", "public TextBridge();");
        document.holds("public static final int NONE = -1;", () -> bench.due("NONE", NONE, -1));
        document.section("An empty TAPE", "How the state is held");
        newObject(document);
        feed(document);
        end(document);
        bounds(document);
        toCbor(document);
        toJson(document);
        errorAt(document);
        out(document);
        outSize(document);
        take(document);
        document.finish("PromiseSentencesTest");
    }

    private static void newObject(Sentences document) {
        document.holds("An empty TAPE", PromiseSentencesTest::emptyTape);
        document.holds("nothing written", PromiseSentencesTest::nothingWritten);
        document.holds("DEPTH 20", () -> depthIs(new TextBridge(), 20));
        document.holds("ROOM 4000", () -> roomIs(TextBridge::new, 4000));
    }

    private static void feed(Sentences document) {
        document.holds("Twenty bytes come behind the TAPE", PromiseSentencesTest::twentyBytes);
        document.holds("four of each number, the highest first", PromiseSentencesTest::highestFirst);
        document.holds("how many it has", PromiseSentencesTest::feedCounts);
        document.holds("NONE, and none come, if it would have more than 4000", PromiseSentencesTest::feedRefused);
    }

    private static void end(Sentences document) {
        document.holds("The TAPE has its first n bytes: n", PromiseSentencesTest::firstBytesStay);
        document.holds("NONE, doing nothing, if it has not so many", PromiseSentencesTest::endTooLarge);
        document.holds("or n is below 0", PromiseSentencesTest::endBelowNothing);
    }

    private static void bounds(Sentences document) {
        document.holds("DEPTH (0 .. 40)", PromiseSentencesTest::everyDepth);
        document.holds("and ROOM (0 .. 6000)", PromiseSentencesTest::everyRoom);
        document.holds("from now on: true", PromiseSentencesTest::boundsFromNowOn);
        document.holds("false, and nothing happens, for others", PromiseSentencesTest::boundsRefused);
    }

    private static void toCbor(Sentences document) {
        document.holds("The TAPE (it stays)", () -> tapeStays(true));
        document.holds("a JSON text, is written as CBOR, in place of what was", () -> inPlaceOfWhatWas(true));
        document.holds("how many bytes", PromiseSentencesTest::howManyOfCbor);
        document.holds("less the FAULT's kind", PromiseSentencesTest::kindsOfJson);
    }

    private static void toJson(Sentences document) {
        document.holds("The TAPE (it stays)", () -> tapeStays(false));
        document.holds("one item of CBOR, is written as JSON, in place of what was", () -> inPlaceOfWhatWas(false));
        document.holds("how many bytes", PromiseSentencesTest::howManyOfJson);
        document.holds("less the FAULT's kind", PromiseSentencesTest::kindsOfCbor);
    }

    private static void errorAt(Sentences document) {
        document.holds("The place of the FAULT of the latest toCbor() or toJson()", PromiseSentencesTest::placeOfLatest);
        document.holds("NONE without one", PromiseSentencesTest::placeWithoutFault);
        document.holds("or ahead of any", PromiseSentencesTest::placeAheadOfAny);
    }

    private static void out(Sentences document) {
        document.holds("Byte i of what is written (0 .. 255)", PromiseSentencesTest::everyByte);
        document.holds("NONE if there is none such", PromiseSentencesTest::noSuchByte);
    }

    private static void outSize(Sentences document) {
        document.holds("How many bytes are written.", PromiseSentencesTest::sizes);
    }

    private static void take(Sentences document) {
        document.holds("What is written becomes the TAPE, in place of what it has: how many bytes", PromiseSentencesTest::taken);
        document.holds("NONE, and nothing happens, if these are more than 4000", PromiseSentencesTest::takeRefused);
    }

    // ---- an object's calls

    private static void lastOfAllCalls() {
        TextBridge x = new TextBridge();
        x.bounds(40, 6000);
        for (int i = 2; i <= 510; i++) {
            x.feed(i, i, i, i, i);
        }
        bench.due("call 511", x.end(20), 20);
        bench.due("call 512", x.toJson(), -1);
        TextBridge y = Bench.loaded(Bench.bytes("[" + "0,".repeat(1998) + "0]"));
        for (int i = 203; i < 512; i++) {
            bench.due("toCbor again and again", y.toCbor(), 2002);
        }
        bench.due("outSize as the last", y.outSize(), 2002);
    }

    // ---- promise 1

    private static void emptyTape() {
        TextBridge x = new TextBridge();
        bench.due("new: end(1)", x.end(1), NONE);
        bench.due("new: end(0)", x.end(0), 0);
        bench.cborFault(x, "an empty TAPE", 1, 0);
        bench.jsonFault(x, "an empty TAPE", 1, 0);
        bench.due("new: first feed", x.feed(0x30202020, 0x20202020, 0x20202020, 0x20202020, 0x20202020), 20);
        bench.due("new: the fed alone", x.toCbor(), 1);
        bench.due("another new: end(1)", new TextBridge().end(1), NONE);
    }

    private static void nothingWritten() {
        TextBridge x = new TextBridge();
        bench.due("new: outSize", x.outSize(), 0);
        bench.due("new: out(0)", x.out(0), NONE);
        bench.due("new: out(-1)", x.out(-1), NONE);
        bench.due("new: feed", x.feed(1, 2, 3, 4, 5), 20);
        bench.due("new: take", x.take(), 0);
        bench.due("new: nothing became the TAPE", x.end(1), NONE);
        Bench.loaded(Bench.bytes("1")).toCbor();
        bench.due("another new: outSize", new TextBridge().outSize(), 0);
    }

    /** With so many it goes, with one more it is fault 4: arrays and maps, from JSON and from CBOR. */
    private static void depthIs(TextBridge x, int depth) {
        String name = "DEPTH " + depth;
        Bench.load(x, Bench.bytes("[".repeat(depth) + "0" + "]".repeat(depth)));
        bench.due(name + ", arrays of JSON", x.toCbor(), depth + 1);
        Bench.load(x, Bench.bytes("[".repeat(depth + 1)));
        bench.cborFault(x, name + ", one array more", 4, depth);
        Bench.load(x, Bench.bytes("{\"\":".repeat(depth) + "0" + "}".repeat(depth)));
        bench.due(name + ", maps of JSON", x.toCbor(), 2 * depth + 1);
        Bench.load(x, Bench.bytes("{\"\":".repeat(depth + 1)));
        bench.cborFault(x, name + ", one map more", 4, 4 * depth);
        Bench.load(x, Bench.unhex("81".repeat(depth) + "00"));
        bench.due(name + ", arrays of CBOR", x.toJson(), 2 * depth + 1);
        Bench.load(x, Bench.unhex("81".repeat(depth) + "80"));
        bench.jsonFault(x, name + ", one array more", 4, depth);
        Bench.load(x, Bench.unhex("a160".repeat(depth) + "00"));
        bench.due(name + ", maps of CBOR", x.toJson(), 5 * depth + 1);
        Bench.load(x, Bench.unhex("a160".repeat(depth) + "a0"));
        bench.jsonFault(x, name + ", one map more", 4, 2 * depth);
    }

    /** With so many bytes it goes, with one more it is fault 5; each on an object of its own, for its 512 calls. */
    private static void roomIs(Bench.Setup setup, int room) {
        String name = "ROOM " + room;
        if (room >= 1 && room <= 4001) {
            TextBridge x = setup.make();
            loadCborOf(x, room);
            bench.due(name + ", just so long a CBOR", x.toCbor(), room);
        }
        if (room <= 4000) {
            TextBridge x = setup.make();
            bench.cborFault(x, name + ", one byte more", 5, loadCborOf(x, room + 1));
        }
        if (room >= 2) {
            TextBridge x = setup.make();
            loadJsonOf(x, room);
            bench.due(name + ", just so long a JSON", x.toJson(), room);
        }
        if (room >= 1) {
            TextBridge x = setup.make();
            bench.jsonFault(x, name + ", one byte more", 5, loadJsonOf(x, room + 1));
        }
    }

    /** A text, perhaps in an array, whose CBOR has so many bytes; answers how long the TAPE is. */
    private static int loadCborOf(TextBridge x, int size) {
        // No text alone has 25 or 258 bytes, since there its head grows.
        boolean inArray = size == 25 || size == 258;
        int length = inArray ? size - 1 : size;
        String text = '"' + "a".repeat(length - (length <= 24 ? 1 : length <= 257 ? 2 : 3)) + '"';
        String json = inArray ? "[" + text + "]" : text;
        Bench.load(x, Bench.bytes(json));
        return json.length();
    }

    /** A text whose JSON has so many bytes, two at least; answers how long the TAPE is. */
    private static int loadJsonOf(TextBridge x, int size) {
        byte[] cbor = textOf((size - 2) / 6, (size - 2) % 6);
        Bench.load(x, cbor);
        return cbor.length;
    }

    /** A text of signs that have six bytes in JSON, and of some that have one. */
    private static byte[] textOf(int six, int one) {
        int size = six + one;
        String head = size < 24 ? String.format("%02x", 0x60 + size)
            : size < 256 ? String.format("78%02x", size) : String.format("79%04x", size);
        return Bench.unhex(head + "01".repeat(six) + "61".repeat(one));
    }

    // ---- promise 2

    private static void twentyBytes() {
        TextBridge x = new TextBridge();
        // A text of 38 bytes, two of them in the first feed's end: the second comes right behind the first.
        x.feed(0x78266162, 0x63646566, 0x6768696A, 0x6B6C6D6E, 0x6F707172);
        x.feed(0x41424344, 0x45464748, 0x494A4B4C, 0x4D4E4F50, 0x51525354);
        bench.due("toJson of 40 bytes", x.toJson(), 40);
        String want = "\"abcdefghijklmnopqrABCDEFGHIJKLMNOPQRST\"";
        for (int i = 0; i <= want.length(); i++) {
            bench.due("byte " + i, x.out(i), i < want.length() ? want.charAt(i) : NONE);
        }
        TextBridge y = Bench.loaded(Bench.bytes("\"abc"));
        y.feed(0x64226120, 0x20202020, 0x20202020, 0x20202020, 0x20202020);
        bench.cborFault(y, "a sign behind the string", 1, 6);
        Bench.load(y, Bench.bytes("7"));
        y.toCbor();
        y.take();
        y.feed(0, 0, 0, 0, 0);
        bench.jsonFault(y, "twenty bytes behind a taken TAPE", 1, 1);
    }

    private static void highestFirst() {
        // Each of the twenty places holds a byte of 128 and more once, and one below once.
        int[][] rows = {{0x73C3BFC3, 0xBFC3BFC3, 0xBFC3BFC3, 0xBFC3BFC3, 0xBFC3BF7A},
            {0x7361C3BF, 0xC3BFC3BF, 0xC3BFC3BF, 0xC3BFC3BF, 0xC3BFC3BF}};
        for (int[] row : rows) {
            TextBridge x = new TextBridge();
            x.feed(row[0], row[1], row[2], row[3], row[4]);
            bench.due("toJson of two-byte signs", x.toJson(), 21);
            for (int i = 1; i < 20; i++) {
                bench.due("byte " + i, x.out(i), row[i / 4] >>> 24 - i % 4 * 8 & 255);
            }
        }
        TextBridge least = new TextBridge();
        least.feed(LEAST, MOST, -1, 0, LEAST);
        bench.jsonFault(least, "80 00 00 00 7f ff ..", 1, 1);
        least.feed(-1, -1, -1, -1, -1);
        bench.due("the TAPE has 40", least.end(40), 40);
    }

    private static void feedCounts() {
        TextBridge x = new TextBridge();
        for (int i = 20; i <= 4000; i += 20) {
            bench.due("feed to " + i, x.feed(-1, LEAST, MOST, 0, 1), i);
        }
        int[] sizes = {0, 1, 7, 19, 20, 21, 3979, 3980};
        for (int size : sizes) {
            TextBridge y = full();
            y.end(size);
            bench.due("feed behind " + size, y.feed(0, 0, 0, 0, 0), size + 20);
            bench.due("it has as many", y.end(size + 21), NONE);
            bench.due("it has as many", y.end(size + 20), size + 20);
        }
    }

    private static void feedRefused() {
        for (int size = 3981; size <= 4000; size++) {
            TextBridge x = full();
            x.end(size);
            bench.due("feed behind " + size, x.feed(0x78787878, 0x78787878, 0x78787878, 0x78787878, 0x78787878), NONE);
            bench.due("feed behind " + size + " again", x.feed(0x78787878, 0, 0, 0, 0), NONE);
            bench.due("none came behind " + size, x.end(size + 1), NONE);
            bench.due("none went of " + size, x.end(size), size);
            bench.due("none was changed of " + size, x.toCbor(), 1);
            x.end(0);
            bench.due("feed when there is room again", x.feed(0, 0, 0, 0, 0), 20);
        }
        TextBridge taken = withWritten(3981);
        taken.take();
        bench.due("feed behind a taken TAPE of 3981", taken.feed(0, 0, 0, 0, 0), NONE);
        bench.due("a part of it did not come", taken.end(3982), NONE);
    }

    /** A TAPE of 4000: 7 and blanks. */
    private static TextBridge full() {
        return Bench.loaded(Bench.bytes("7" + " ".repeat(3999)));
    }

    /** A new object with a JSON of so many bytes written. */
    private static TextBridge withWritten(int size) {
        TextBridge x = new TextBridge();
        x.bounds(40, 6000);
        loadJsonOf(x, size);
        bench.due("toJson of " + size, x.toJson(), size);
        return x;
    }

    // ---- promise 3

    private static void firstBytesStay() {
        for (int n = 5; n >= 0; n--) {
            TextBridge x = Bench.loaded(Bench.bytes("12345"));
            bench.due("end(" + n + ")", x.end(n), n);
            bench.due("end(" + n + ") cuts", x.end(n + 1), NONE);
            bench.due("what is cut does not come back", x.feed(0x20202020, 0x20202020, 0x20202020, 0x20202020, 0x20202020), n + 20);
            if (n == 0) {
                bench.cborFault(x, "blanks alone", 1, 20);
                continue;
            }
            x.toCbor();
            x.take();
            bench.due("the first bytes stay", x.toJson(), n);
            for (int i = 0; i < n; i++) {
                bench.due("byte " + i + " of " + n, x.out(i), '1' + i);
            }
        }
        TextBridge full = full();
        bench.due("end(4000)", full.end(4000), 4000);
        bench.due("end(3999)", full.end(3999), 3999);
        bench.due("end(0)", full.end(0), 0);
        bench.due("end(0) again", full.end(0), 0);
    }

    private static void endTooLarge() {
        int[] sizes = {0, 1, 20, 3999, 4000};
        for (int size : sizes) {
            int[] more = {size + 1, size + 20, 4001, 6000, MOST};
            for (int n : more) {
                TextBridge x = full();
                x.end(size);
                bench.due("end(" + n + ") of " + size, x.end(n), NONE);
                bench.due("it did nothing", x.end(size), size);
                bench.due("it did nothing", x.toCbor(), size == 0 ? -1 : 1);
            }
        }
    }

    private static void endBelowNothing() {
        int[] below = {-1, -2, -20, -4000, LEAST + 1, LEAST};
        for (int n : below) {
            TextBridge x = Bench.loaded(Bench.bytes("255"));
            bench.due("end(" + n + ")", x.end(n), NONE);
            bench.due("it did nothing", x.toCbor(), 2);
            bench.due("it did nothing", x.end(3), 3);
            bench.due("end(" + n + ") of a new one", new TextBridge().end(n), NONE);
        }
    }

    // ---- promise 4

    private static void everyDepth() {
        for (int depth = 0; depth <= 40; depth++) {
            TextBridge x = new TextBridge();
            bench.due("bounds(" + depth + ", 6000)", x.bounds(depth, 6000) ? 1 : 0, 1);
            depthIs(x, depth);
        }
    }

    private static void everyRoom() {
        int[] rooms = {0, 1, 2, 3, 22, 23, 24, 25, 26, 255, 256, 257, 258, 259, 3999, 4000, 4001, 5999, 6000};
        for (int room : rooms) {
            bench.due("bounds(1, " + room + ")", new TextBridge().bounds(1, room) ? 1 : 0, 1);
            roomIs(() -> Bench.bounded(new byte[0], 1, room), room);
        }
        TextBridge none = Bench.loaded(Bench.bytes("0"));
        bench.due("bounds(0, 0)", none.bounds(0, 0) ? 1 : 0, 1);
        bench.cborFault(none, "ROOM 0", 5, 1);
        bench.jsonFault(none, "ROOM 0", 5, 1);
        bench.due("bounds(0, 1)", none.bounds(0, 1) ? 1 : 0, 1);
        bench.due("ROOM 1", none.toCbor(), 1);
        bench.cborFault(0, 1, "24", 5, 2);
        bench.jsonFault(0, 1, "0a", 5, 1);
    }

    private static void boundsFromNowOn() {
        TextBridge x = Bench.loaded(Bench.bytes("[[1]]"));
        bench.due("at first", x.toCbor(), 3);
        bench.due("bounds(1, 6000)", x.bounds(1, 6000) ? 1 : 0, 1);
        bench.due("what is written stays", Bench.firstWritten(x), "3: 129 129 1 -1");
        bench.due("errorAt stays", x.errorAt(), NONE);
        bench.cborFault(x, "DEPTH 1", 4, 1);
        bench.due("bounds(2, 2)", x.bounds(2, 2) ? 1 : 0, 1);
        bench.due("errorAt stays", x.errorAt(), 1);
        bench.cborFault(x, "ROOM 2", 5, 5);
        bench.due("bounds(2, 3)", x.bounds(2, 3) ? 1 : 0, 1);
        bench.due("wider again", x.toCbor(), 3);
        bench.due("bounds as they are", x.bounds(2, 3) ? 1 : 0, 1);
        bench.due("still", x.toCbor(), 3);
        x.take();
        bench.jsonFault(x, "both have one ROOM", 5, 3);
    }

    private static void boundsRefused() {
        int[][] others = {{-1, 6000}, {41, 6000}, {LEAST, 6000}, {MOST, 6000}, {40, -1}, {40, 6001}, {40, LEAST},
            {40, MOST}, {-1, -1}, {41, 6001}, {0, -1}, {0, 6001}, {-1, 0}, {41, 0}, {256, 10}, {10, 65536}};
        for (int[] pair : others) {
            TextBridge x = Bench.loaded(Bench.bytes("[5]"));
            x.bounds(1, 3);
            x.toCbor();
            String name = "bounds(" + pair[0] + ", " + pair[1] + ")";
            bench.due(name, x.bounds(pair[0], pair[1]) ? 1 : 0, 0);
            bench.due(name + " leaves what is written", Bench.firstWritten(x), "2: 129 5 -1");
            bench.due(name + " leaves the TAPE", x.end(3), 3);
            boundsAreOneAndThree(x, name);
            TextBridge fresh = new TextBridge();
            bench.due(name + " of a new one", fresh.bounds(pair[0], pair[1]) ? 1 : 0, 0);
            depthIs(fresh, 20);
            roomIs(() -> Bench.bounded(new byte[0], pair[0], pair[1]), 4000);
        }
    }

    private static void boundsAreOneAndThree(TextBridge x, String name) {
        bench.due(name + " leaves DEPTH 1", x.toCbor(), 2);
        Bench.load(x, Bench.bytes("[[]]"));
        bench.cborFault(x, name + " leaves DEPTH 1", 4, 1);
        Bench.load(x, Bench.bytes("[1,2]"));
        bench.due(name + " leaves ROOM 3", x.toCbor(), 3);
        Bench.load(x, Bench.bytes("[1,24]"));
        bench.cborFault(x, name + " leaves ROOM 3", 5, 6);
    }

    // ---- promises 5 and 6

    private static int convert(TextBridge x, boolean fromJson) {
        return fromJson ? x.toCbor() : x.toJson();
    }

    private static void tapeStays(boolean fromJson) {
        byte[] good = fromJson ? Bench.bytes("[1,\"ab\"]") : Bench.unhex("8201626162");
        byte[] bad = fromJson ? Bench.bytes("[1,\"ab\"") : Bench.unhex("8301626162");
        for (byte[] tape : new byte[][] {good, bad, new byte[0]}) {
            TextBridge x = Bench.loaded(tape);
            int first = convert(x, fromJson);
            int place = x.errorAt();
            bench.due("a second time", convert(x, fromJson), first);
            bench.due("a second time: errorAt", x.errorAt(), place);
            bench.due("not more", x.end(tape.length + 1), NONE);
            bench.due("not less", x.end(tape.length), tape.length);
            bench.due("a third time", convert(x, fromJson), first);
            bench.due("and more behind it", x.feed(0, 0, 0, 0, 0), tape.length + 20);
        }
    }

    private static void inPlaceOfWhatWas(boolean fromJson) {
        String[] texts = {"[1,2,3,[4,5]]", "\"abc\"", "0", "[]", "\"0123456789abcdefghijklmnop\"", "-1"};
        String[] items = {"840102038204 05", "63616263", "00", "80", "781a303132333435363738396162636465666768696a6b6c6d6e6f70", "20"};
        TextBridge x = new TextBridge();
        for (int i = 0; i < texts.length; i++) {
            byte[] json = Bench.bytes(texts[i]);
            byte[] cbor = Bench.unhex(items[i]);
            byte[] want = fromJson ? cbor : json;
            Bench.load(x, fromJson ? json : cbor);
            bench.due("of " + texts[i], convert(x, fromJson), want.length);
            bench.due("outSize of " + texts[i], x.outSize(), want.length);
            for (int k = 0; k <= want.length; k++) {
                bench.due("byte " + k + " of " + texts[i], x.out(k), k < want.length ? want[k] & 255 : NONE);
            }
        }
    }

    private static void howManyOfCbor() {
        int[] signs = {0, 1, 22, 23, 24, 25, 254, 255, 256, 257, 3996, 3997};
        for (int count : signs) {
            int head = count < 24 ? 1 : count < 256 ? 2 : 3;
            bench.due("a text of " + count, Bench.loaded(Bench.bytes('"' + "a".repeat(count) + '"')).toCbor(), head + count);
        }
        int[] parts = {1, 23, 24, 255, 256, 663};
        for (int count : parts) {
            int head = count < 24 ? 1 : count < 256 ? 2 : 3;
            String array = "0,".repeat(count - 1) + "0";
            String map = "\"\":0,".repeat(count - 1) + "\"\":0";
            bench.due("an array of " + count, Bench.loaded(Bench.bytes("[" + array + "]")).toCbor(), head + count);
            bench.due("a map of " + count, Bench.loaded(Bench.bytes("{" + map + "}")).toCbor(), head + 2 * count);
        }
        lateHeads();
        bench.due("the shortest", Bench.loaded(Bench.bytes("0")).toCbor(), 1);
        bench.due("the longest", Bench.bounded(Bench.bytes('"' + "a".repeat(3998) + '"'), 0, 6000).toCbor(), 4001);
    }

    /** Heads that are longer than a byte, at the end of a TAPE that is nearly full. */
    private static void lateHeads() {
        String ahead = "82 790dac" + "61".repeat(3500);
        String text = "[\"" + "a".repeat(3500) + "\",";
        bench.cbor(text + "[" + "0,".repeat(23) + "0]]", ahead + "9818" + "00".repeat(24));
        bench.cbor(text + "[[[" + "0,".repeat(236) + "\"abc\"]]]]", ahead + "818198ed" + "00".repeat(236) + "63616263");
        bench.cbor(text + "{" + "\"\":0,".repeat(90) + "\"\":0}]", ahead + "b85b" + "6000".repeat(91));
        bench.cbor(text + "\"" + "b".repeat(493) + "\"]", ahead + "7901ed" + "62".repeat(493));
        bench.cbor(text + "{\"" + "b".repeat(400) + "\":[\"" + "c".repeat(81) + "\"]}]",
            ahead + "a1790190" + "62".repeat(400) + "817851" + "63".repeat(81));
    }

    private static void howManyOfJson() {
        int[] signs = {0, 1, 23, 24, 255, 256, 3997};
        for (int count : signs) {
            bench.due("a text of " + count, Bench.loaded(textOf(0, count)).toJson(), count + 2);
        }
        int[] sizes = {1, 2, 3, 19, 20};
        String[] items = {"09", "0a", "1864", "1b8ac7230489e7ffff", "1b8ac7230489e80000"};
        for (int i = 0; i < sizes.length; i++) {
            bench.due("the number " + items[i], Bench.loaded(Bench.unhex(items[i])).toJson(), sizes[i]);
        }
        bench.due("the shortest", Bench.loaded(Bench.unhex("00")).toJson(), 1);
        bench.due("the longest", Bench.bounded(textOf(999, 4), 0, 6000).toJson(), 6000);
    }

    private static void kindsOfJson() {
        String[] texts = {"[7,8,]", "[7,\"\u0080\"]", "[7,1.5]", "[[7]]", "[7,8,9]"};
        for (int kind = 1; kind <= texts.length; kind++) {
            TextBridge x = Bench.bounded(Bench.bytes("[1,2]"), 1, 3);
            x.toCbor();
            Bench.load(x, Bench.bytes(texts[kind - 1]));
            bench.due("toCbor of " + texts[kind - 1], x.toCbor(), -kind);
            bench.due("what was stays", Bench.firstWritten(x), "3: 130 1 2 -1");
        }
    }

    private static void kindsOfCbor() {
        String[] items = {"8207", "820740", "820761ff", "818107", "820708", "82071800"};
        for (int kind = 1; kind <= items.length; kind++) {
            TextBridge x = Bench.bounded(Bench.unhex("8101"), 1, 3);
            x.toJson();
            Bench.load(x, Bench.unhex(items[kind - 1]));
            bench.due("toJson of " + items[kind - 1], x.toJson(), -kind);
            bench.due("what was stays", Bench.firstWritten(x), "3: 91 49 93 -1");
        }
    }

    // ---- promise 7

    private static void placeOfLatest() {
        TextBridge x = Bench.loaded(Bench.bytes("[1,x]"));
        x.toCbor();
        bench.due("of toCbor", x.errorAt(), 3);
        x.toJson();
        bench.due("of toJson, which is later", x.errorAt(), 0);
        x.toCbor();
        bench.due("of toCbor, which is later", x.errorAt(), 3);
        x.end(2);
        x.feed(0, 0, 0, 0, 0);
        x.bounds(1, 1);
        x.outSize();
        x.out(0);
        x.take();
        x.end(-1);
        bench.due("other calls leave it", x.errorAt(), 3);
        bench.due("and again", x.errorAt(), 3);
        x.toCbor();
        bench.due("the first place of all", x.errorAt(), 0);
        bench.cborFault("[" + " ".repeat(3999), 1, 4000);
        bench.jsonFault("990fa0" + "00".repeat(3997), 1, 4000);
    }

    private static void placeWithoutFault() {
        TextBridge x = Bench.loaded(Bench.bytes("x"));
        x.toCbor();
        bench.due("with one", x.errorAt(), 0);
        Bench.load(x, Bench.bytes("0"));
        x.toCbor();
        bench.due("toCbor without one", x.errorAt(), NONE);
        Bench.load(x, Bench.unhex("0000"));
        x.toJson();
        bench.due("with one", x.errorAt(), 1);
        x.end(1);
        x.toJson();
        bench.due("toJson without one", x.errorAt(), NONE);
        Bench.load(x, Bench.bytes("x"));
        bench.due("until the next", x.errorAt(), NONE);
    }

    private static void placeAheadOfAny() {
        TextBridge x = new TextBridge();
        bench.due("new", x.errorAt(), NONE);
        x.end(5);
        x.bounds(-1, -1);
        x.out(3);
        x.take();
        Bench.load(x, Bench.bytes("x"));
        bench.due("ahead of any", x.errorAt(), NONE);
    }

    // ---- promises 8 and 9

    private static void everyByte() {
        for (int value = 0; value < 256; value++) {
            TextBridge x = Bench.loaded(Bench.bytes("[" + (value + 256) + ",-" + (256 * value + 257) + "]"));
            x.toCbor();
            bench.due("the byte " + value, x.out(3), value);
            bench.due("the byte " + value, x.out(5), value + 1 & 255);
        }
        TextBridge x = Bench.loaded(Bench.bytes("18446744073709551615"));
        x.toCbor();
        for (int i = 1; i <= 8; i++) {
            bench.due("out(" + i + ")", x.out(i), 255);
        }
        TextBridge longest = withWritten(6000);
        bench.due("out(0)", longest.out(0), '"');
        bench.due("out(1)", longest.out(1), '\\');
        bench.due("out(3999)", longest.out(3999), "\\u0001".charAt((3999 - 1) % 6));
        bench.due("out(4000)", longest.out(4000), "\\u0001".charAt((4000 - 1) % 6));
        bench.due("out(5999)", longest.out(5999), '"');
    }

    private static void noSuchByte() {
        int[] sizes = {0, 2, 3, 24, 4000, 5999, 6000};
        for (int size : sizes) {
            TextBridge x = size == 0 ? new TextBridge() : withWritten(size);
            int[] none = {-1, -2, LEAST, LEAST + size, MOST, size, size + 1, 6000, 6001};
            for (int i : none) {
                bench.due("out(" + i + ") of " + size, x.out(i), NONE);
            }
        }
        TextBridge shorter = withWritten(6000);
        Bench.load(shorter, Bench.unhex("00"));
        shorter.toJson();
        bench.due("out(0)", shorter.out(0), '0');
        for (int i : new int[] {1, 2, 100, 5999}) {
            bench.due("what was there is no more: " + i, shorter.out(i), NONE);
        }
    }

    private static void sizes() {
        TextBridge x = new TextBridge();
        bench.due("new", x.outSize(), 0);
        x.toCbor();
        bench.due("a fault, and nothing ahead of it", x.outSize(), 0);
        for (int size : new int[] {2, 4000, 4001, 6000}) {
            bench.due("as many as toJson answered", withWritten(size).outSize(), size);
        }
        TextBridge y = withWritten(6000);
        y.end(0);
        y.toJson();
        bench.due("a fault leaves them", y.outSize(), 6000);
        y.feed(0x30303030, 0, 0, 0, 0);
        y.end(1);
        bench.due("the TAPE is another thing", y.outSize(), 6000);
        y.bounds(0, 0);
        bench.due("ROOM does not cut them", y.outSize(), 6000);
        y.toCbor();
        bench.due("too long a CBOR leaves them", y.outSize(), 6000);
        y.bounds(0, 1);
        y.toCbor();
        bench.due("fewer in their place", y.outSize(), 1);
        y.take();
        bench.due("take leaves them", y.outSize(), 1);
    }

    // ---- promise 10

    private static void taken() {
        TextBridge x = new TextBridge();
        x.feed(1, 2, 3, 4, 5);
        bench.due("nothing is taken", x.take(), 0);
        bench.due("in place of twenty", x.end(1), NONE);
        for (int size : new int[] {2, 3, 20, 3999, 4000}) {
            TextBridge y = withWritten(size);
            bench.due("take of " + size, y.take(), size);
            bench.due("not more than " + size, y.end(size + 1), NONE);
            bench.due("the JSON is the TAPE", y.toCbor() > 0 ? 1 : 0, 1);
            y.take();
            bench.due("there and back", y.toJson(), size);
        }
        TextBridge longer = full();
        longer.toCbor();
        bench.due("one in place of 4000", longer.take(), 1);
        bench.due("not more", longer.end(2), NONE);
        bench.due("it is 07", longer.toJson(), 1);
        bench.due("it is 07", longer.out(0), '7');
        longer.feed(0x30303030, 0, 0, 0, 0);
        bench.due("the TAPE is another row than what is written", Bench.firstWritten(longer), "1: 55 -1");
        bench.due("take again", longer.take(), 1);
        bench.due("behind a fault what was is taken", takenBehindFault(), 3);
    }

    private static int takenBehindFault() {
        TextBridge x = Bench.loaded(Bench.bytes("[1,2]"));
        x.toCbor();
        x.feed(0, 0, 0, 0, 0);
        x.toCbor();
        return x.take();
    }

    private static void takeRefused() {
        for (int size : new int[] {4001, 4002, 5999, 6000}) {
            TextBridge x = withWritten(size);
            byte[] tape = Bench.bytes("[true,x]");
            Bench.load(x, tape);
            x.toCbor();
            String written = Bench.firstWritten(x);
            bench.due("take of " + size, x.take(), NONE);
            bench.due("what is written stays", Bench.firstWritten(x), written);
            bench.due("errorAt stays", x.errorAt(), 6);
            bench.due("the TAPE's size stays", x.end(tape.length + 1), NONE);
            bench.cborFault(x, "the TAPE as it was", 1, 6);
        }
        bench.due("4000 are not too many", withWritten(4000).take(), 4000);
        TextBridge cbor = Bench.bounded(Bench.bytes('"' + "a".repeat(3998) + '"'), 0, 4001);
        cbor.toCbor();
        bench.due("4001 of CBOR", cbor.take(), NONE);
    }
}
