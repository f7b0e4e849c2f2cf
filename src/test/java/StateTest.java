/** Promises 1 to 4 and 7 to 10: the tape, the bounds, and what is written. */
public final class StateTest {
    private static final int NONE = TextBridge.NONE;
    private static final Bench bench = new Bench();

    public static void main(String[] args) {
        newObject();
        feed();
        feedLimit();
        end();
        bounds();
        boundsHoldFromNowOn();
        errorAt();
        out();
        writtenAfterFault();
        take();
        takeLimit();
        bench.finish("StateTest");
    }

    private static void newObject() {
        bench.due("NONE", NONE, -1);
        TextBridge x = new TextBridge();
        bench.due("new: outSize", x.outSize(), 0);
        bench.due("new: out(0)", x.out(0), NONE);
        bench.due("new: errorAt", x.errorAt(), NONE);
        bench.due("new: end(1)", x.end(1), NONE);
        bench.due("new: end(0)", x.end(0), 0);
        bench.due("new: take", x.take(), 0);
        bench.due("new: toCbor", x.toCbor(), -1);
        bench.due("new: errorAt of toCbor", x.errorAt(), 0);
        TextBridge y = new TextBridge();
        bench.due("new: toJson", y.toJson(), -1);
        bench.due("new: errorAt of toJson", y.errorAt(), 0);
        bench.cborFault("[".repeat(21), 4, 20);
        bench.cborFault("[".repeat(20), 1, 20);
        bench.json("81".repeat(20) + "00", "[".repeat(20) + "0" + "]".repeat(20));
        bench.jsonFault("81".repeat(21) + "00", 4, 20);
        // A text of 3997 bytes has 3999 in JSON, with its quotes, and 4000 in CBOR, with its head.
        String longest = "a".repeat(3997);
        bench.due("new: CBOR of 4000", Bench.loaded(Bench.bytes('"' + longest + '"')).toCbor(), 4000);
        bench.cborFault('"' + longest + "a\"", 5, 4000);
        bench.due("new: JSON of 4000", Bench.loaded(Bench.unhex("79029c4141" + "00".repeat(666))).toJson(), 4000);
        bench.jsonFault("79029d414141" + "00".repeat(666), 5, 672);
    }

    private static void feed() {
        TextBridge x = new TextBridge();
        bench.due("feed", x.feed(0x22C3BF41, 0x7F422222, 0x20202020, 0x0A0D0920, 0x20202020), 20);
        bench.due("feed again", x.feed(0, 0, 0, 0, 0), 40);
        bench.due("end(7)", x.end(7), 7);
        bench.due("feed behind 7", x.feed(0, 0, 0, 0, 0), 27);
        x.end(7);
        bench.due("toCbor", x.toCbor(), 6);
        int[] want = {0x65, 0xC3, 0xBF, 0x41, 0x7F, 0x42};
        for (int i = 0; i < want.length; i++) {
            bench.due("out(" + i + ")", x.out(i), want[i]);
        }
        TextBridge order = new TextBridge();
        order.feed(0x22616263, 0x64656667, 0x68696A6B, 0x6C6D6E6F, 0x70717222);
        bench.due("toCbor of five numbers", order.toCbor(), 19);
        int[] signs = {0x72, 0x61, 0x62, 0x63, 0x64, 0x65, 0x66, 0x67, 0x68, 0x69, 0x6A, 0x6B, 0x6C, 0x6D, 0x6E, 0x6F, 0x70, 0x71, 0x72};
        for (int i = 0; i < signs.length; i++) {
            bench.due("five numbers: out(" + i + ")", order.out(i), signs[i]);
        }
        TextBridge high = new TextBridge();
        bench.due("feed of numbers below 0", high.feed(-1, -2, Integer.MIN_VALUE, Integer.MAX_VALUE, -1), 20);
        bench.due("toJson of ff", high.toJson(), -1);
    }

    private static void feedLimit() {
        TextBridge x = new TextBridge();
        for (int i = 1; i <= 200; i++) {
            bench.due("feed " + i, x.feed(0x20202020, 0x20202020, 0x20202020, 0x20202020, 0x20202030), 20 * i);
        }
        bench.due("feed beyond 4000", x.feed(0, 0, 0, 0, 0), NONE);
        bench.due("none came", x.end(4000), 4000);
        bench.due("not 4001", x.end(4001), NONE);
        bench.due("end(3981)", x.end(3981), 3981);
        bench.due("feed to 4001", x.feed(0, 0, 0, 0, 0), NONE);
        bench.due("still 3981", x.end(3982), NONE);
        bench.due("end(3980)", x.end(3980), 3980);
        bench.due("feed to 4000", x.feed(0, 0, 0, 0, 0), 4000);
    }

    private static void end() {
        TextBridge x = Bench.loaded(Bench.bytes("1234567"));
        bench.due("end(-1)", x.end(-1), NONE);
        bench.due("end(least)", x.end(Integer.MIN_VALUE), NONE);
        bench.due("end(8)", x.end(8), NONE);
        bench.due("end(most)", x.end(Integer.MAX_VALUE), NONE);
        bench.due("end(7)", x.end(7), 7);
        bench.due("toCbor of 1234567", x.toCbor(), 5);
        bench.due("end(2)", x.end(2), 2);
        bench.due("end(3) has gone", x.end(3), NONE);
        bench.due("toCbor of 12", x.toCbor(), 1);
        bench.due("out(0)", x.out(0), 12);
        bench.due("end(0)", x.end(0), 0);
        bench.due("toCbor of nothing", x.toCbor(), -1);
        bench.due("errorAt of nothing", x.errorAt(), 0);
    }

    private static void bounds() {
        TextBridge x = new TextBridge();
        int[][] good = {{0, 0}, {40, 6000}, {0, 6000}, {40, 0}, {20, 4000}};
        for (int[] pair : good) {
            bench.due("bounds(" + pair[0] + ", " + pair[1] + ")", x.bounds(pair[0], pair[1]) ? 1 : 0, 1);
        }
        int[][] bad = {{-1, 10}, {41, 10}, {10, -1}, {10, 6001}, {Integer.MIN_VALUE, 10}, {Integer.MAX_VALUE, 10},
            {10, Integer.MIN_VALUE}, {10, Integer.MAX_VALUE}, {-1, -1}, {41, 6001}};
        for (int[] pair : bad) {
            TextBridge y = Bench.loaded(Bench.bytes("[[0]]"));
            y.bounds(1, 2);
            String name = "bounds(" + pair[0] + ", " + pair[1] + ")";
            bench.due(name, y.bounds(pair[0], pair[1]) ? 1 : 0, 0);
            bench.due(name + " leaves DEPTH", y.toCbor(), -4);
            Bench.load(y, Bench.bytes("256"));
            bench.due(name + " leaves ROOM", y.toCbor(), -5);
            Bench.load(y, Bench.bytes("255"));
            bench.due(name + " leaves ROOM 2", y.toCbor(), 2);
        }
    }

    private static void boundsHoldFromNowOn() {
        TextBridge x = Bench.loaded(Bench.bytes("[1,2]"));
        bench.due("toCbor", x.toCbor(), 3);
        x.bounds(0, 0);
        bench.due("bounds leave what is written", x.outSize(), 3);
        bench.due("DEPTH 0", x.toCbor(), -4);
        bench.due("DEPTH 0: errorAt", x.errorAt(), 0);
        Bench.load(x, Bench.bytes("1"));
        bench.due("ROOM 0", x.toCbor(), -5);
        bench.due("ROOM 0: errorAt", x.errorAt(), 1);
        x.bounds(0, 1);
        bench.due("ROOM 1", x.toCbor(), 1);
        x.bounds(40, 6000);
        Bench.load(x, Bench.bytes("[".repeat(40) + "]".repeat(40)));
        bench.due("DEPTH 40", x.toCbor(), 40);
        bench.due("DEPTH 40: take", x.take(), 40);
        bench.due("DEPTH 40: toJson", x.toJson(), 80);
        Bench.load(x, Bench.bytes("[".repeat(41) + "]".repeat(41)));
        bench.cborFault(x, "41 deep", 4, 40);
        Bench.load(x, Bench.unhex("81".repeat(41)));
        bench.jsonFault(x, "41 deep", 4, 40);
    }

    private static void errorAt() {
        TextBridge x = Bench.loaded(Bench.bytes("[1,x]"));
        bench.due("errorAt ahead of any", x.errorAt(), NONE);
        bench.due("toCbor", x.toCbor(), -1);
        bench.due("errorAt", x.errorAt(), 3);
        x.end(2);
        x.bounds(3, 3);
        x.feed(0, 0, 0, 0, 0);
        x.take();
        bench.due("errorAt stays", x.errorAt(), 3);
        Bench.load(x, Bench.bytes("0"));
        x.toCbor();
        bench.due("errorAt without a fault", x.errorAt(), NONE);
        bench.due("toJson of 30, which is -17", x.toJson(), 3);
        bench.due("errorAt of toJson without a fault", x.errorAt(), NONE);
        Bench.load(x, Bench.unhex("820040"));
        bench.due("toJson of bytes", x.toJson(), -2);
        bench.due("errorAt of toJson", x.errorAt(), 2);
    }

    private static void out() {
        TextBridge x = Bench.loaded(Bench.bytes("[255,-256]"));
        bench.due("toCbor", x.toCbor(), 5);
        int[] want = {0x82, 0x18, 0xFF, 0x38, 0xFF, NONE, NONE};
        for (int i = 0; i < want.length; i++) {
            bench.due("out(" + i + ")", x.out(i), want[i]);
        }
        int[] none = {-1, Integer.MIN_VALUE, Integer.MAX_VALUE, 5999, 6000, 6001};
        for (int i : none) {
            bench.due("out(" + i + ")", x.out(i), NONE);
        }
        bench.due("outSize", x.outSize(), 5);
        bench.due("the TAPE stays", x.end(10), 10);
        Bench.load(x, Bench.bytes("7"));
        bench.due("a new TAPE leaves what is written", x.outSize(), 5);
        bench.due("toCbor again", x.toCbor(), 1);
        bench.due("in place of what was", x.outSize(), 1);
        bench.due("out(1)", x.out(1), NONE);
    }

    private static void writtenAfterFault() {
        TextBridge x = Bench.loaded(Bench.bytes("[1,2,3"));
        bench.due("a fault ahead of any writing", x.toCbor(), -1);
        bench.due("nothing is written yet", Bench.firstWritten(x), "0: -1");
        Bench.load(x, Bench.bytes("[1,2,3]"));
        bench.due("toCbor", x.toCbor(), 4);
        String array = "4: 131 1 2 3 -1";
        Bench.load(x, Bench.bytes("[9,8,7,6,5,"));
        bench.cborFault(x, "an open array", 1, 11);
        bench.due("toCbor leaves what was", Bench.firstWritten(x), array);
        Bench.load(x, Bench.unhex("83090807ff"));
        bench.jsonFault(x, "a byte behind", 1, 4);
        bench.due("toJson leaves what was", Bench.firstWritten(x), array);
        bench.due("the TAPE stays, too", x.end(6), NONE);
        bench.due("the TAPE has 5", x.end(5), 5);
        bench.due("take of what was", x.take(), 4);
        bench.due("toJson of it", x.toJson(), 7);
        String text = "7: 91 49 44 50 44 51 93 -1";
        bench.due("in place of what was", Bench.firstWritten(x), text);
        Bench.load(x, Bench.unhex("8204"));
        bench.jsonFault(x, "an array that lacks an item", 1, 2);
        bench.jsonFault(x, "the same again", 1, 2);
        bench.cborFault(x, "CBOR", 1, 0);
        bench.due("the latest writing stays", Bench.firstWritten(x), text);
        everyKindLeavesWritten();
    }

    private static void everyKindLeavesWritten() {
        String[] texts = {"[7,8,]", "[7,\"\u0080\"]", "[7,1.5]", "[[7]]", "[7,8,9]"};
        for (int kind = 1; kind <= texts.length; kind++) {
            TextBridge x = withThreeWritten(Bench.bytes(texts[kind - 1]));
            bench.due("toCbor of " + texts[kind - 1], x.toCbor(), -kind);
            bench.due("toCbor of " + texts[kind - 1] + " leaves", Bench.firstWritten(x), "3: 130 1 2 -1");
        }
        String[] items = {"8207", "820740", "820761ff", "818107", "820708", "82071800"};
        for (int kind = 1; kind <= items.length; kind++) {
            TextBridge x = withThreeWritten(Bench.unhex(items[kind - 1]));
            bench.due("toJson of " + items[kind - 1], x.toJson(), -kind);
            bench.due("toJson of " + items[kind - 1] + " leaves", Bench.firstWritten(x), "3: 130 1 2 -1");
        }
    }

    private static TextBridge withThreeWritten(byte[] tape) {
        TextBridge x = Bench.loaded(Bench.bytes("[1,2]"));
        x.bounds(1, 3);
        x.toCbor();
        Bench.load(x, tape);
        return x;
    }

    private static void take() {
        TextBridge x = Bench.loaded(Bench.bytes("{\"a\":[1]}"));
        x.toCbor();
        bench.due("take", x.take(), 5);
        bench.due("what is written stays", x.outSize(), 5);
        bench.due("out(0)", x.out(0), 0xA1);
        bench.due("not more than 5", x.end(6), NONE);
        bench.due("toJson", x.toJson(), 9);
        bench.due("take", x.take(), 9);
        bench.due("toCbor", x.toCbor(), 5);
        bench.due("take", x.take(), 5);
        bench.due("feed behind it", x.feed(0, 0, 0, 0, 0), 25);
        bench.due("written isn't the TAPE", x.outSize(), 5);
    }

    private static void takeLimit() {
        TextBridge x = new TextBridge();
        x.bounds(40, 6000);
        // 997 signs of six bytes, 16 of one, and two quotes are 6000.
        Bench.load(x, Bench.unhex("7903f5" + "01".repeat(997) + "41".repeat(16)));
        bench.due("toJson of 6000", x.toJson(), 6000);
        bench.due("out(5999)", x.out(5999), '"');
        bench.due("out(5998)", x.out(5998), 'A');
        bench.due("out(6000)", x.out(6000), NONE);
        bench.due("take of 6000", x.take(), NONE);
        bench.due("nothing happened to the TAPE", x.end(1016), 1016);
        bench.due("the TAPE is as it was", x.toJson(), 6000);
        x.bounds(40, 5999);
        bench.jsonFault(x, "6000 in 5999", 5, 1016);
        x.bounds(40, 6000);
        Bench.load(x, Bench.unhex("7903f6" + "01".repeat(997) + "41".repeat(17)));
        bench.jsonFault(x, "6001 in 6000", 5, 1017);
        Bench.load(x, Bench.unhex("79029a" + "01".repeat(666)));
        bench.due("toJson of 3998", x.toJson(), 3998);
        bench.due("take of 3998", x.take(), 3998);
        TextBridge y = new TextBridge();
        y.bounds(40, 6000);
        Bench.load(y, Bench.unhex("79029c" + "01".repeat(666) + "4141"));
        bench.due("toJson of 4000", y.toJson(), 4000);
        bench.due("take of 4000", y.take(), 4000);
        bench.due("toCbor of it", y.toCbor(), 671);
        Bench.load(y, Bench.unhex("79029d" + "01".repeat(666) + "414141"));
        bench.due("toJson of 4001", y.toJson(), 4001);
        bench.due("take of 4001", y.take(), NONE);
    }
}
