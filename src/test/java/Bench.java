import java.nio.charset.StandardCharsets;
import java.util.Arrays;

/** What the tests share: filling a tape, reading what is written, counting wrong answers. */
final class Bench {
    /** An object is promised for 512 calls alone; long outputs are read from several objects. */
    private static final int READS_OF_ONE_OBJECT = 200;
    private static final int BYTES_LOOKED_AT = 20;

    interface Setup {
        TextBridge make();
    }

    private int wrong = 0;
    private int checked = 0;

    /** Each sign of the text is one byte. */
    static byte[] bytes(String text) {
        return text.getBytes(StandardCharsets.ISO_8859_1);
    }

    static byte[] utf8(String text) {
        return text.getBytes(StandardCharsets.UTF_8);
    }

    static byte[] unhex(String text) {
        String digits = text.replace(" ", "");
        byte[] result = new byte[digits.length() / 2];
        for (int i = 0; i < result.length; i++) {
            result[i] = (byte) Integer.parseInt(digits.substring(2 * i, 2 * i + 2), 16);
        }
        return result;
    }

    static String hex(byte[] bytes) {
        StringBuilder result = new StringBuilder();
        for (byte b : bytes) {
            result.append(String.format("%02x", b & 255));
        }
        return result.toString();
    }

    static byte[] join(byte[] a, byte[] b) {
        byte[] result = Arrays.copyOf(a, a.length + b.length);
        System.arraycopy(b, 0, result, a.length, b.length);
        return result;
    }

    /** Of a sign of several bytes, by RFC 3629's table of well-formed sequences. */
    static boolean isSecondOf(int first, int second) {
        int least = first == 0xE0 ? 0xA0 : first == 0xF0 ? 0x90 : 0x80;
        int most = first == 0xED ? 0x9F : first == 0xF4 ? 0x8F : 0xBF;
        return first >= 0xC2 && first <= 0xF4 && second >= least && second <= most;
    }

    static TextBridge loaded(byte[] tape) {
        TextBridge x = new TextBridge();
        load(x, tape);
        return x;
    }

    static TextBridge bounded(byte[] tape, int depth, int room) {
        TextBridge x = loaded(tape);
        x.bounds(depth, room);
        return x;
    }

    static void load(TextBridge x, byte[] tape) {
        x.end(0);
        byte[] padded = Arrays.copyOf(tape, (tape.length + 19) / 20 * 20);
        for (int i = 0; i < padded.length; i += 20) {
            x.feed(four(padded, i), four(padded, i + 4), four(padded, i + 8), four(padded, i + 12), four(padded, i + 16));
        }
        x.end(tape.length);
    }

    private static int four(byte[] row, int i) {
        return (row[i] & 255) << 24 | (row[i + 1] & 255) << 16 | (row[i + 2] & 255) << 8 | row[i + 3] & 255;
    }

    static byte[] written(Setup setup) {
        TextBridge x = setup.make();
        byte[] result = new byte[x.outSize()];
        for (int i = 0; i < result.length; i++) {
            if (i > 0 && i % READS_OF_ONE_OBJECT == 0) {
                x = setup.make();
            }
            result[i] = (byte) x.out(i);
        }
        return result;
    }

    int wrong() {
        return wrong;
    }

    int checked() {
        return checked;
    }

    void due(String what, long got, long want) {
        checked++;
        if (got != want) {
            wrong++;
            System.out.println(what + " answered " + got + ", due is " + want);
        }
    }

    void due(String what, String got, String want) {
        checked++;
        if (!got.equals(want)) {
            wrong++;
            int same = firstDifference(got, want);
            System.out.println(what + " wrote, from sign " + same + " on, " + clipped(got.substring(same)) + ", due is "
                + clipped(want.substring(same)));
        }
    }

    /** A JSON text, one sign a byte, and the CBOR that is due. */
    void cbor(String json, String wantHex) {
        cbor(bytes(json), wantHex);
    }

    void cbor(byte[] json, String wantHex) {
        String name = "toCbor of " + shown(json);
        byte[] want = unhex(wantHex);
        TextBridge x = loaded(json);
        due(name, x.toCbor(), want.length);
        due(name + ": errorAt", x.errorAt(), TextBridge.NONE);
        due(name + ": outSize", x.outSize(), want.length);
        due(name + ": behind", x.out(want.length), TextBridge.NONE);
        due(name, hex(written(() -> converted(json, true))), hex(want));
    }

    void cborFault(String json, int kind, int place) {
        cborFault(loaded(bytes(json)), shown(bytes(json)), kind, place);
    }

    void cborFault(TextBridge x, String name, int kind, int place) {
        String earlier = firstWritten(x);
        due("toCbor of " + name, x.toCbor(), -kind);
        due("toCbor of " + name + ": errorAt", x.errorAt(), place);
        due("toCbor of " + name + ": what was written", firstWritten(x), earlier);
    }

    void cborFault(int depth, int room, String json, int kind, int place) {
        String name = shown(bytes(json)) + " at DEPTH " + depth + ", ROOM " + room;
        cborFault(bounded(bytes(json), depth, room), name, kind, place);
    }

    /** CBOR and the JSON that is due, one sign a byte. */
    void json(String cborHex, String want) {
        json(unhex(cborHex), want);
    }

    void json(byte[] cbor, String want) {
        String name = "toJson of " + hex(cbor);
        TextBridge x = loaded(cbor);
        due(name, x.toJson(), want.length());
        due(name + ": errorAt", x.errorAt(), TextBridge.NONE);
        due(name + ": outSize", x.outSize(), want.length());
        due(name + ": behind", x.out(want.length()), TextBridge.NONE);
        byte[] got = written(() -> converted(cbor, false));
        due(name, new String(got, StandardCharsets.ISO_8859_1), want);
    }

    void jsonFault(String cborHex, int kind, int place) {
        jsonFault(loaded(unhex(cborHex)), cborHex, kind, place);
    }

    void jsonFault(TextBridge x, String name, int kind, int place) {
        String earlier = firstWritten(x);
        due("toJson of " + name, x.toJson(), -kind);
        due("toJson of " + name + ": errorAt", x.errorAt(), place);
        due("toJson of " + name + ": what was written", firstWritten(x), earlier);
    }

    void jsonFault(int depth, int room, String cborHex, int kind, int place) {
        String name = cborHex + " at DEPTH " + depth + ", ROOM " + room;
        jsonFault(bounded(unhex(cborHex), depth, room), name, kind, place);
    }

    /** How many bytes are written, and the first of them. */
    static String firstWritten(TextBridge x) {
        int size = x.outSize();
        StringBuilder result = new StringBuilder().append(size).append(':');
        for (int i = 0; i < BYTES_LOOKED_AT && i <= size; i++) {
            result.append(' ').append(x.out(i));
        }
        return result.toString();
    }

    private static TextBridge converted(byte[] tape, boolean fromJson) {
        TextBridge x = loaded(tape);
        if (fromJson) {
            x.toCbor();
        } else {
            x.toJson();
        }
        return x;
    }

    static String shown(byte[] json) {
        StringBuilder result = new StringBuilder();
        for (byte b : json) {
            int value = b & 255;
            result.append(value >= 32 && value < 127 ? String.valueOf((char) value) : String.format("<%02x>", value));
        }
        return clipped(result.toString());
    }

    private static int firstDifference(String a, String b) {
        int same = 0;
        while (same < a.length() && same < b.length() && a.charAt(same) == b.charAt(same)) {
            same++;
        }
        return same;
    }

    private static String clipped(String text) {
        return text.length() > 120 ? text.substring(0, 117) + ".." : text;
    }

    void finish(String name) {
        System.out.println(name + ": " + checked + " answers, " + wrong + " not as due");
        if (wrong != 0) {
            System.exit(1);
        }
    }
}
